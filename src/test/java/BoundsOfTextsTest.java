/** The bounds that 'Terms' names of a VALLEY's and a RULE's text: each sentence at its bound, just within and just beyond. */
public final class BoundsOfTextsTest extends Told {
    private static final String HEAD = "valley 0 1";
    private static final String HOUSE = ";house 1 0 0";
    private static final String THREE = HEAD + HOUSE.repeat(3);
    private static final String SIX_HOURS = "valley 1 1;house 9 1 1;road 0 1 6";
    private static String sentence;

    private static void told(String text, int houses) { due(sentence, "valley of \"" + text + "\"", valley(new SmokeWord(), text), houses); }
    private static void bad(String text, int place, int kind) {
        due(sentence, "valley of \"" + text + "\"", valley(new SmokeWord(), text), fault(place, kind));
    }
    private static void ruled(String text) { due(sentence, "rule of \"" + text + "\"", rule(new SmokeWord(), text), 0); }
    private static void badRule(String text, int place, int kind) {
        due(sentence, "rule of \"" + text + "\"", rule(new SmokeWord(), text), fault(place, kind));
    }
    private static String padded(String text, int length) { return text + " ".repeat(length - text.length()); }

    // ---- the text as such

    private static void bytes() {
        sentence = "a VALLEY is a text of at most 400 bytes";
        told(padded(HEAD, 399), 0);
        told(padded(HEAD, 400), 0);
        SmokeWord x = new SmokeWord();
        put(x, padded(HEAD, 400));
        due(sentence, "a byte more can't be fed", x.feed(0x20202020, 0x20202020, 0x20202020, 0x20202020, 0x20202020), -1);
        due(sentence, "end(401)", x.end(401), -1);
        due(sentence, "the 400 are still the VALLEY", x.valley(), 0);
        sentence = "RULES: texts likewise";
        ruled(padded("go 1", 399));
        ruled(padded("go 1", 400));
        put(x, padded("go 1", 400));
        due(sentence, "end(401)", x.end(401), -1);
        due(sentence, "the 400 are still a RULE", x.rule(), 0);
        sentence = "a text of 400 signs, or with a sign that its end cuts off";
        bad(";".repeat(400), 0, 0);
        badRule("[".repeat(400), 0, 0);
        badRule(padded("go 1 if 1", 399) + "<", 400, 0);
        badRule(padded("go 1 if 1", 399) + ">", 400, 0);
        badRule(padded("go 1 if 1", 398) + ">=", 400, 0);
        put(x, "go 1 if 1<=2");
        x.end(10);
        due(sentence, "what is cut off is no part of it", x.rule(), fault(10, 0));
        put(x, "valley 12 34");
        x.end(8);
        due(sentence, "what is cut off is no part of it", x.valley(), fault(8, 0));
        put(x, "go 12345678");
        x.end(8);
        due(sentence, "what is cut off is no part of it", x.rule(), 1);
        sentence = "CLAUSE { ; CLAUSE }: an empty text is none";
        bad("", 0, 0);
        badRule("", 0, 0);
        told(HEAD, 0);
        ruled("go 1");
    }

    private static void blanks() {
        sentence = "Blanks (32) stand between as one likes";
        told("valley0 1;house1 0 0;road0 1 2;house1 0 0;beside0 1", 2);
        told("   valley   0   1   ;   house   1   0   0   ", 1);
        ruled("go1+2*worth-3/far%4if[not1<=2]or3>=4and5=6;go7");
        ruled("  go  1  +  2  if  [  not  1  <=  2  ]  or  3  >=  4  ;  go  7  ");
        sentence = "Blanks (32): no other byte is one";
        for (int other : new int[] {0, 9, 10, 13, 31, 33, 127, 128, 160, 255}) {
            bad("valley" + (char) other + "0 1", 6, 0);
            bad("valley 0 1" + (char) other, 10, 0);
            badRule("go" + (char) other + "1", 2, 0);
            badRule((char) other + "go 1", 0, 0);
        }
        sentence = "between: none within a WORD, a NUMBER or a SIGN";
        bad("val ley 0 1", 0, 0);
        bad(HEAD + ";house 1 0 0 0", 23, 0);
        badRule("g o 1", 0, 0);
        badRule("go 1 2", 5, 0);
        badRule("go 1 if 1 < = 2", 12, 0);
        badRule("go 1 if 1 > = 2", 12, 0);
        ruled("go 1 if 1 <= 2");
        ruled("go 1 if 1 >= 2");
    }

    private static void wordsGoOn() {
        sentence = "WORDS: small letters, as far as these go on";
        bad("valle 0 1", 0, 0);
        bad("valleyy 0 1", 0, 0);
        bad("valley@0 1", 6, 0);
        bad("valley`0 1", 6, 0);
        bad("valley{0 1", 6, 0);
        bad("vALLEY 0 1", 0, 0);
        for (String word : new String[] {"house", "road", "beside"}) {
            bad(HEAD + ";" + word.substring(1) + " 0 0 0", 11, 0);
            bad(HEAD + ";z" + word.substring(1) + " 0 0 0", 11, 0);
            bad(HEAD + ";" + word + "s 0 0 0", 11, 0);
        }
        String[] words = {"house", "says", "worth", "smoke", "far", "near", "fires", "lost", "been", "water", "hour"};
        for (String word : words) {
            ruled("go " + word);
            ruled("go 1+" + word + "*2if 1<" + word);
            badRule("go 1+" + word + "if 1=1", 5, 0);
            badRule("go " + word + "z", 3, 0);
            badRule("go a" + word, 3, 0);
            badRule("go z" + word.substring(1), 3, 0);
            if (!word.equals("house")) badRule("go " + word.substring(0, word.length() - 1), 3, 0);
        }
        for (String word : new String[] {"go", "if", "or", "and", "not", "valley", "road", "beside", "heat", "leap"}) badRule("go " + word, 3, 0);
        badRule("goo 1", 0, 0);
        badRule("g 1", 0, 0);
        badRule("go 1 i 1=1", 5, 0);
        badRule("go 1 iff 1=1", 5, 0);
        badRule("go 1 if 1=1 o 1=1", 12, 0);
        badRule("go 1 if 1=1 orr 1=1", 12, 0);
        badRule("go 1 if 1=1 an 1=1", 12, 0);
        badRule("go 1 if 1=1 ands 1=1", 12, 0);
        badRule("go 1 if no 1=1", 8, 0);
        badRule("go 1 if nott 1=1", 8, 0);
    }

    private static void digits() {
        sentence = "NUMBER: 1 to 5 digits, as far as digits go on";
        told("valley 0009 1", 0);
        told("valley 00009 1", 0);
        bad("valley 000009 1", 7, 1);
        bad("valley 0 000001", 9, 1);
        bad("valley  1", 9, 0);
        ruled("go 9999");
        ruled("go 99999");
        badRule("go 100000", 3, 1);
        badRule("go 000001", 3, 1);
        badRule("go 1 if 1 = 123456", 12, 1);
        badRule("go 1 if 123456 = 1", 8, 1);
        badRule("go 1 + " + "9".repeat(393), 7, 1);
        // 4294967297 would be 1, if it went round in 32 bits.
        badRule("go 4294967297", 3, 1);
        bad("valley 0 4294967297", 9, 1);
        badRule("go /1", 3, 0);
        badRule("go :1", 3, 0);
        badRule("go 1:", 4, 0);
    }

    // ---- the VALLEY's CLAUSES

    private static void clauses() {
        sentence = "CLAUSES of a VALLEY: 40 at most";
        // 40 take 400 bytes at least, so that no text has room for a 41st.
        String head = "valley1 1;house1 0 0";
        told(head + ";road0 1 1".repeat(37), 1);
        SmokeWord x = new SmokeWord();
        due(sentence, "40 CLAUSES", valley(x, head + ";road0 1 1".repeat(37) + ";road0 1 7"), 1);
        due(sentence, "the 40th counts", x.far(0, 1), 7);
        sentence = "valley: once, the first CLAUSE";
        told(HEAD, 0);
        bad(HEAD + ";valley 0 1", 11, 4);
        bad(THREE + ";valley 0 1", THREE.length() + 1, 4);
        bad("house 1 0 0;valley 0 1", 0, 4);
        bad("  house 1 0 0;valley 0 1", 2, 4);
        bad("road 0 1 1", 0, 4);
        bad("beside 0 1", 0, 4);
        bad(";valley 0 1", 0, 0);
        bad("go 1", 0, 0);
        bad("0", 0, 0);
        sentence = "CLAUSE { ; CLAUSE }";
        bad(HEAD + ";", 11, 0);
        bad(HEAD + ";;house 1 0 0", 11, 0);
        bad(HEAD + " house 1 0 0", 11, 0);
        bad(HEAD + ",house 1 0 0", 10, 0);
    }

    /** A text with a gap for a NUMBER that can be from least to most. */
    private static void slot(String before, int least, int most, String after, int houses) {
        int place = before.length();
        told(before + least + after, houses);
        told(before + (least + 1) + after, houses);
        told(before + (most - 1) + after, houses);
        told(before + most + after, houses);
        bad(before + (most + 1) + after, place, 1);
        bad(before + "99999" + after, place, 1);
        if (least > 0) bad(before + (least - 1) + after, place, 1);
        bad(before + "-1" + after, place, 0);
        bad(before + "x" + after, place, 0);
        bad(before + ";", place, 0);
        bad(before, place, 0);
    }

    private static void numbers() {
        sentence = "WATER 0 to 9";
        slot("valley ", 0, 9, " 1", 0);
        sentence = "LEAP 1 to 9";
        slot("valley 0 ", 1, 9, "", 0);
        sentence = "WORTH 0 to 99";
        slot(HEAD + ";house ", 0, 99, " 0 0", 1);
        sentence = "HEAT 0 to 9";
        slot(HEAD + ";house 1 ", 0, 9, " 0", 1);
        sentence = "SAYS 0 to 20";
        slot(HEAD + ";house 1 0 ", 0, 20, "", 1);
        sentence = "road's HOURS 1 to 9";
        slot(THREE + ";road 0 1 ", 1, 9, "", 3);
        SmokeWord x = of("valley 9 9;house 99 9 20;house 0 0 0;road 0 1 9;road 0 2 1");
        int[] due = {9, 9};
        for (int w = 0; w < 2; w++) due("what a VALLEY tells", "count(" + w + ")", x.count(w), due[w]);
        int[][] of = {{99, 9, 20}, {0, 0, 0}};
        for (int h = 0; h < 2; h++)
            for (int w = 0; w < 3; w++) due("what a VALLEY tells", "house(" + h + ", " + w + ")", x.house(h, w), of[h][w]);
        due("what a VALLEY tells", "far(0, 1)", x.far(0, 1), 9);
        due("what a VALLEY tells", "far(0, 2)", x.far(0, 2), 1);
        SmokeWord y = of("valley 0 1");
        due("what a VALLEY tells", "count(0)", y.count(0), 0);
        due("what a VALLEY tells", "count(1)", y.count(1), 1);
    }

    private static void places() {
        sentence = "road: two PLACES: 0, the pump, or a HOUSE that was told, by its number and 1";
        int place = THREE.length() + 6;
        for (int one = 0; one <= 5; one++) {
            for (int other = 0; other <= 5; other++) {
                String text = THREE + ";road " + one + " " + other + " 1";
                if (one > 3) bad(text, place, 1);
                else if (other > 3 || other == one) bad(text, place + 2, 1);
                else told(text, 3);
            }
        }
        bad(HEAD + ";road 0 1 1", 18, 1);
        bad(HEAD + ";road 1 0 1", 16, 1);
        bad(HEAD + ";road 0 1 1;house 1 0 0", 18, 1);
        bad(HEAD + HOUSE + ";road 1 2 1" + HOUSE, 30, 1);
        told(HEAD + HOUSE + ";road 0 1 1" + HOUSE + ";road 1 2 1", 2);
        String six = HEAD + HOUSE.repeat(6);
        told(six + ";road 6 5 1", 6);
        bad(six + ";road 7 5 1", six.length() + 6, 1);
        sentence = "of the same two, either way round, the last told";
        due(sentence, "far(0, 1)", of(THREE + ";road 0 1 1;road 0 1 9").far(0, 1), 9);
        due(sentence, "far(0, 1)", of(THREE + ";road 0 1 1;road 1 0 9").far(0, 1), 9);
        due(sentence, "far(1, 0)", of(THREE + ";road 1 0 9;road 0 1 1").far(1, 0), 1);
        due(sentence, "far(2, 3)", of(THREE + ";road 2 3 1;road 3 2 5;road 2 3 4").far(3, 2), 4);
    }

    private static void besides() {
        sentence = "beside: two HOUSES that were told";
        int place = THREE.length() + 8;
        for (int one = 0; one <= 4; one++) {
            for (int other = 0; other <= 4; other++) {
                String text = THREE + ";beside " + one + " " + other;
                if (one > 2) bad(text, place, 1);
                else if (other > 2 || other == one) bad(text, place + 2, 1);
                else told(text, 3);
            }
        }
        bad(HEAD + ";beside 0 1", 18, 1);
        bad(HEAD + HOUSE + ";beside 0 1" + HOUSE, 32, 1);
        bad(HEAD + HOUSE + ";beside 1 0" + HOUSE, 30, 1);
        String six = HEAD + HOUSE.repeat(6);
        told(six + ";beside 5 4", 6);
        bad(six + ";beside 6 4", six.length() + 8, 1);
        sentence = "beside told already: nothing new";
        SmokeWord x = new SmokeWord();
        due(sentence, "valley", valley(x, THREE + ";beside 0 2;beside 2 0;beside 0 2"), 3);
        due(sentence, "house(0, 3)", x.house(0, 3), 4);
        due(sentence, "house(1, 3)", x.house(1, 3), 0);
        due(sentence, "house(2, 3)", x.house(2, 3), 1);
    }

    private static void houses() {
        sentence = "HOUSES 0 to 5, in the order told";
        for (int n = 0; n <= 6; n++) told(HEAD + HOUSE.repeat(n), n);
        bad(HEAD + HOUSE.repeat(7), HEAD.length() + 6 * 12 + 1, 4);
        bad(HEAD + HOUSE.repeat(6) + ";  house x", HEAD.length() + 6 * 12 + 3, 4);
        bad(HEAD + HOUSE.repeat(6) + ";houses 1 0 0", HEAD.length() + 6 * 12 + 1, 0);
        SmokeWord x = of(HEAD + ";house 1 0 0;house 2 0 0;house 3 0 0;house 4 0 0;house 5 0 0;house 6 0 0");
        for (int h = 0; h < 6; h++) due(sentence, "house(" + h + ", 0)", x.house(h, 0), h + 1);
        due(sentence, "house(6, 0)", x.house(6, 0), -1);
        due(sentence, "house(-1, 0)", x.house(-1, 0), -1);
        sentence = "a HOUSE without WORTH has no HEAT";
        due(sentence, "WORTH 0, HEAT 9", of(HEAD + ";house 0 9 0").house(0, 1), 0);
        due(sentence, "WORTH 0, HEAT 1", of(HEAD + ";house 0 1 0").house(0, 1), 0);
        due(sentence, "WORTH 1, HEAT 9", of(HEAD + ";house 1 9 0").house(0, 1), 9);
        due(sentence, "WORTH 0, HEAT 10 is a FAULT", valley(new SmokeWord(), HEAD + ";house 0 10 0"), fault(19, 1));
    }

    private static void inPlace() {
        sentence = "the VALLEY in place of the one there was (no NOTES, nothing to be UNDONE; the RULE IN FORCE and x stay)";
        StringBuilder six = new StringBuilder("valley 7 7");
        for (int h = 0; h < 6; h++) six.append(";house 90 3 9").append(";road ").append(h).append(" ").append(h + 1).append(" 2");
        six.append(";beside 0 1;beside 1 2;beside 0 5");
        for (int houses = 0; houses <= 2; houses++) {
            SmokeWord x = forced(six.toString(), "go house+1");
            x.seed(9);
            x.note(2, 2);
            hours(x, 1);
            due(sentence, "on its way", x.count(8), 11);
            hours(x, 12);
            due(sentence, "there", x.count(6), 6);
            x.send(0);
            due(sentence, "another", valley(x, "valley 1 2" + ";house 5 0 1".repeat(houses)), houses);
            int[] all = {1, 2, houses, 1, 0, 0, 0, -1, 0, 0, 5 * houses, 0, 0, 0, 9, 0};
            for (int w = 0; w < 16; w++) due(sentence, "count(" + w + ")", x.count(w), all[w]);
            int[] of = {5, 0, 1, 0, 0};
            for (int h = 0; h <= 2; h++) for (int w = 0; w < 5; w++) due(sentence, "house " + h + " " + w, x.house(h, w), h < houses ? of[w] : -1);
            for (int h = 1; h <= 2; h++) due(sentence, "far(0, " + h + ")", x.far(0, h), h <= houses ? -2 : -1);
            due(sentence, "nothing can be UNDONE", x.undo(), -1);
            due(sentence, "left(100)", x.left(100), 5 * houses);
        }
        SmokeWord been = of("valley 0 9;house 9 0 0;house 9 0 0;road 0 1 1;road 1 2 1");
        been.send(0);
        hours(been, 2);
        been.send(1);
        hours(been, 1);
        due(sentence, "it was there", been.house(0, 4) * 10 + been.house(1, 4), 21);
        valley(been, "valley 0 9;house 9 0 0;house 9 0 0");
        due(sentence, "it was not there", been.house(0, 4) * 10 + been.house(1, 4), 0);
        sentence = "It is HOUR 0; the brigade is at the pump";
        SmokeWord y = of(SIX_HOURS);
        for (int w = 5; w <= 8; w++) due(sentence, "count(" + w + ")", y.count(w), w == 7 ? -1 : 0);
    }

    // ---- the RULES

    private static void ruleClauses() {
        sentence = "RULES: 12 CLAUSES at most";
        for (int n = 11; n <= 12; n++) ruled("go 1" + ";go 1".repeat(n - 1));
        badRule("go 1" + ";go 1".repeat(12), 4 + 55 + 1, 4);
        badRule("go 1" + ";go 1".repeat(11) + ";   go", 4 + 55 + 4, 4);
        badRule("go 1" + ";go 1".repeat(11) + ";goo", 4 + 55 + 1, 0);
        badRule("go 1" + ";go 1".repeat(11) + ";", 4 + 55 + 1, 0);
        sentence = "go SUM [ if TEST ]";
        badRule("go", 2, 0);
        badRule("go ", 3, 0);
        badRule("go if 1=1", 3, 0);
        badRule("go 1 if", 7, 0);
        badRule("go 1 if ", 8, 0);
        badRule("go 1 if ;go 1", 8, 0);
        badRule("go 1 if 1=1 if 1=1", 12, 0);
        badRule("if 1=1", 0, 0);
        badRule(";go 1", 0, 0);
        badRule("go 1;;go 1", 5, 0);
        badRule("go 1 go 1", 5, 0);
        sentence = "RULES 0 to 5";
        SmokeWord x = new SmokeWord();
        for (int n = 0; n <= 5; n++) due(sentence, "RULE " + n, rule(x, "go " + n), n);
        due(sentence, "a seventh", rule(x, "go 6"), -1);
        due(sentence, "count(3)", x.count(3), 6);
        sentence = "RULES: each as it was told, whatever was told ahead of it";
        SmokeWord y = of("valley 0 9;house 1 0 0;road 0 1 1");
        for (int n = 0; n < 4; n++) rule(y, "go 1" + "+1".repeat(59));
        rule(y, "go 1;go 1;go 1;go 1;go 1;go 1;go 1;go 1;go 1;go 1;go 1;go 1");
        rule(y, "go 1" + "+1".repeat(60));
        due(sentence, "the sixth", rule(y, "go 1-far"), 5);
        y.force(5);
        due(sentence, "by the sixth", y.ahead(0, 1, 2), 0);
        for (int n = 0; n < 5; n++) {
            y.force(n);
            due(sentence, "by RULE " + n, y.ahead(0, 1, 2), 1);
        }
        SmokeWord z = of("valley 0 9;house 1 0 0;road 0 1 1", "go 0 if 1=2;go 1 if 1=1;go 1", "go 1 if 1=2", "go 0-1 if 1=2;go 0");
        for (int n = 0; n < 3; n++) {
            z.force(n);
            due(sentence, "by RULE " + n, z.ahead(0, 1, 2), n == 0 ? 1 : 0);
        }
    }

    private static void grammar() {
        sentence = "TEST: PART { or PART }; PART: FACT { and FACT }";
        ruled("go 1 if 1=1 or 1=1 and 1=1 or 1=1");
        badRule("go 1 if or 1=1", 8, 0);
        badRule("go 1 if 1=1 or", 14, 0);
        badRule("go 1 if 1=1 and", 15, 0);
        badRule("go 1 if 1=1 or and 1=1", 15, 0);
        badRule("go 1 if 1=1 1=1", 12, 0);
        sentence = "FACT: not FACT | [ TEST ] | SUM SIGN SUM";
        ruled("go 1 if not not 1=1");
        ruled("go 1 if not [1=1 or 1=1]");
        badRule("go 1 if []", 9, 0);
        badRule("go 1 if [1=1", 12, 0);
        badRule("go 1 if [1=1 ]]", 14, 0);
        badRule("go 1 if 1=1]", 11, 0);
        badRule("go 1 if [1]=1", 10, 0);
        badRule("go 1 if [1=1]=1", 13, 0);
        badRule("go 1 if 1", 9, 0);
        badRule("go 1 if 1=", 10, 0);
        badRule("go 1 if =1", 8, 0);
        badRule("go 1 if 1=not 1", 10, 0);
        badRule("go [1]", 3, 0);
        badRule("go not 1", 3, 0);
        sentence = "SIGN one of < <= = >= >";
        for (String sign : new String[] {"<", "<=", "=", ">=", ">"}) ruled("go 1 if 1" + sign + "1");
        for (String sign : new String[] {"==", "=<", "=>", "<>", "><", "<<", ">>", "<==", ">=="})
            badRule("go 1 if 1" + sign + "1", sign.startsWith("<=") || sign.startsWith(">=") ? 11 : 10, 0);
        badRule("go 1 if 1!1", 9, 0);
        badRule("go 1 if 1=1=1", 11, 0);
        badRule("go 1=1", 4, 0);
        sentence = "SUM: TERM { (+ or -) TERM }; TERM: VALUE { (* or / or %) VALUE }";
        for (String join : new String[] {"+", "-", "*", "/", "%"}) {
            ruled("go 1" + join + "1");
            badRule("go " + join + "1", 3, 0);
            badRule("go 1" + join, 5, 0);
            badRule("go 1" + join + join + "1", 5, 0);
        }
        badRule("go (1)", 3, 0);
    }

    private static void depth() {
        sentence = "[ and not lie within one another 10 deep at most";
        for (int n = 9; n <= 10; n++) {
            ruled("go 1 if " + "[".repeat(n) + "1=1" + "]".repeat(n));
            ruled("go 1 if " + "not ".repeat(n) + "1=1");
            ruled("go 1 if " + "not ".repeat(n - 5) + "[".repeat(5) + "1=1" + "]".repeat(5));
            ruled("go 1 if " + "[".repeat(n - 5) + "not ".repeat(5) + "1=1" + "]".repeat(n - 5));
        }
        badRule("go 1 if " + "[".repeat(11) + "1=1" + "]".repeat(11), 18, 2);
        badRule("go 1 if " + "not ".repeat(11) + "1=1", 48, 2);
        badRule("go 1 if " + "not ".repeat(6) + "[".repeat(5) + "1=1" + "]".repeat(5), 8 + 24 + 4, 2);
        badRule("go 1 if " + "[".repeat(6) + "not ".repeat(5) + "1=1" + "]".repeat(6), 8 + 6 + 16, 2);
        badRule("go 1 if " + "[".repeat(11), 18, 2);
        badRule("go 1 if " + "[".repeat(10), 18, 0);
        String ten = "[".repeat(10) + "1=1" + "]".repeat(10);
        // What lies side by side lies not within: each begins anew.
        ruled("go 1 if " + ten + " and " + ten + " or " + ten + ";go 1 if " + ten);
        ruled("go 1 if [" + "not ".repeat(9) + "1=1 or " + "not ".repeat(9) + "1=1]");
        badRule("go 1 if " + ten + " and [" + ten + "]", 8 + 23 + 5 + 10, 2);
        badRule("go 1 if [1=1 or " + ten + "]", 8 + 8 + 9, 2);
    }

    private static void parts() {
        sentence = "at most 60 VALUES (of SUMS) and FACTS made of a SIGN, together";
        ruled("go 1" + "+1".repeat(58));
        ruled("go 1" + "+1".repeat(59));
        badRule("go 1" + "+1".repeat(60), 4 + 119, 3);
        ruled("go 1" + "*far".repeat(59));
        badRule("go 1" + "*far".repeat(60), 4 + 59 * 4 + 1, 3);
        // A VALUE and 19 FACTS of three make 58; with two VALUES ahead of a 20th FACT's SIGN it is one too many.
        String facts = "go 1 if 1=1" + "or 1=1".repeat(18);
        ruled(facts);
        ruled(facts.replace("go 1", "go 1+1+1"));
        badRule(facts + "or 1=1", facts.length() + 5, 3);
        String more = facts.replace("go 1", "go 1+1");
        badRule(more + "or 1=1", more.length() + 4, 3);
        String most = facts.replace("go 1", "go 1+1+1");
        badRule(most + "or 1=1", most.length() + 3, 3);
        badRule(most + ";go 1", most.length() + 4, 3);
        // Brackets and not are no parts.
        ruled("go 1+1+1 if [not 1=1]" + "or [not 1=1]".repeat(18));
        // Each of 12 CLAUSES with 5 parts makes 60; a RULE begins at none.
        String clause = "go 1+1 if 1=1";
        ruled(clause + (";" + clause).repeat(11));
        badRule(clause + (";" + clause).repeat(10) + ";go 1+1 if 1+1=1", 11 * 14 + 14, 3);
        SmokeWord x = new SmokeWord();
        for (int n = 0; n < 6; n++) due(sentence, "60 in RULE " + n, rule(x, "go 1" + "+1".repeat(59)), n);
    }

    // ---- FAULTS

    private static void faults() {
        sentence = "FAULTS, the first along the text";
        bad("valley 10 0", 7, 1);
        bad("valley 0 0;valley 0 1", 9, 1);
        bad(HEAD + ";valley 0 1;x", 11, 4);
        bad(HEAD + ";x;valley 0 1", 11, 0);
        badRule("go 123456 if 1", 3, 1);
        badRule("go x;go 123456", 3, 0);
        badRule("go 1 if " + "[".repeat(11) + "x", 18, 2);
        badRule("go 1 if x" + "[".repeat(11), 8, 0);
        sentence = "FAULTS: 1 + 8 * its place";
        SmokeWord x = new SmokeWord();
        due(sentence, "at place 0", valley(x, "x"), -3);
        due(sentence, "at place 1", valley(x, " x"), -11);
        due(sentence, "at place 399", valley(x, padded(HEAD, 399) + "x"), -3 - 8 * 399);
        due(sentence, "at place 399", rule(x, padded("go 1", 399) + "x"), -3 - 8 * 399);
        sentence = "FAULTS: the end (behind the last byte)";
        due(sentence, "of no bytes", valley(x, ""), -3);
        due(sentence, "of 6", valley(x, "valley"), -3 - 48);
        due(sentence, "of 8 with blanks", valley(x, "valley  "), -3 - 64);
        due(sentence, "of 400", valley(x, padded("valley", 400)), -3 - 3200);
        due(sentence, "of no bytes", rule(x, ""), -3);
        due(sentence, "of 400", rule(x, padded("go", 400)), -3 - 3200);
        sentence = "FAULTS: kinds 0 to 4";
        due(sentence, "0", rule(x, "x"), -3);
        due(sentence, "1", rule(x, "go 123456"), -3 - 24 - 1);
        due(sentence, "2", rule(x, "go 1 if " + "[".repeat(11)), -3 - 8 * 18 - 2);
        due(sentence, "3", rule(x, "go 1" + "+1".repeat(60)), -3 - 8 * 123 - 3);
        due(sentence, "4", rule(x, "go 1" + ";go 1".repeat(12)), -3 - 8 * 60 - 4);
        due(sentence, "4", valley(x, HEAD + ";valley 0 1"), -3 - 8 * 11 - 4);
    }

    private static void least() {
        sentence = "FAULTS: of one place the least";
        // A NUMBER of more digits where none can stand: 0, not 1.
        bad(HEAD + " 123456", 11, 0);
        badRule("go 1 123456", 5, 0);
        badRule("123456", 0, 0);
        // A CLAUSE too many that is none: 0, not 4.
        badRule("go 1" + ";go 1".repeat(11) + ";1", 60, 0);
        bad("x;" + HEAD, 0, 0);
        // The 61st VALUE is no WORD that can stand there, or a NUMBER of more digits: 0 or 1, not 3.
        String sixty = "go 1" + "+1".repeat(59);
        badRule(sixty + "+x", sixty.length() + 1, 0);
        badRule(sixty + "+]", sixty.length() + 1, 0);
        badRule(sixty + "+99999", sixty.length() + 1, 3);
        badRule(sixty + "+123456", sixty.length() + 1, 1);
        // Behind the 60th what is no SIGN: 0.
        String facts = "go 1+1+1 if 1=1" + "or 1=1".repeat(18);
        badRule(facts.substring(0, facts.length() - 2) + "!1", facts.length() - 2, 0);
        // Too deep, with no part left: 2.
        String full = "go 1+1+1 if 1=1" + "or 1=1".repeat(18);
        badRule(full + " or " + "[".repeat(11), full.length() + 14, 2);
        // A seventh HOUSE that goes on wrongly is told at its first byte.
        bad(HEAD + HOUSE.repeat(6) + ";house 100 0 0", HEAD.length() + 73, 4);
        // A second one that is the first and beyond what is told is one FAULT.
        bad(HEAD + ";road 0 0 0", 18, 1);
    }

    public static void main(String[] args) {
        bytes(); blanks(); wordsGoOn(); digits();
        clauses(); numbers(); places(); besides(); houses(); inPlace();
        ruleClauses(); grammar(); depth(); parts();
        faults(); least();
        finish();
    }
}
