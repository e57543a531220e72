/** The bounds of an HOUR, of what a RULE works out and of the ACTS: each sentence at its bound, just within and just beyond. */
public final class BoundsOfHoursTest extends Told {
    private static String sentence;

    private static void due(String call, int got, int want) { due(sentence, call, got, want); }

    // ---- what a RULE works out

    /** Whether the brigade goes to the only HOUSE, by this RULE: so its SUM is above 0, or its TEST holds. */
    private static void goes(String rule, boolean goes) {
        SmokeWord x = of("valley 7 9;house 50 0 6;road 0 1 1");
        due("rule of \"" + rule + "\"", rule(x, rule), 0);
        x.force(0);
        x.hour();
        due("by \"" + rule + "\" it is at", x.count(6), goes ? 1 : 0);
    }
    private static void is(String sum, String number) {
        goes("go 1 if " + sum + " = " + number, true);
        goes("go 1 if " + sum + " < " + number, false);
        goes("go 1 if " + sum + " > " + number, false);
    }

    private static void division() {
        sentence = "/ is towards 0, % its rest";
        String[][] parts = {{"5", "6", "0", "5"}, {"6", "6", "1", "0"}, {"7", "6", "1", "1"}, {"11", "6", "1", "5"}, {"12", "6", "2", "0"}};
        for (String[] p : parts) {
            is(p[0] + "/" + p[1], p[2]);
            is(p[0] + "%" + p[1], p[3]);
        }
        // 60000 * 60000 * 60000 * 60000 goes round to -5486744073709551616.
        String below = "60000*60000*60000*60000";
        goes("go 1 if " + below + " < 0", true);
        is(below + "/60000/60000/60000", "0-25401");
        is(below + "%1000", "0-616");
        is(below + "%7", "0-5");
        is(below + "/99999/99999/99999/99999", "0");
        sentence = "/ and %: both 0 by 0";
        for (String zero : new String[] {"0", "00000", "been", "lost", "hour", "house", "fires", "smoke", "near"}) {
            is("7/" + zero, "0");
            is("7%" + zero, "0");
            is("0/" + zero, "0");
            is("0%" + zero, "0");
            is(below + "/" + zero, "0");
            is(below + "%" + zero, "0");
            is("7/" + zero + "+3", "3");
            is("3+7%" + zero + "*5", "3");
        }
        is("7/1", "7");
        is("7%1", "0");
    }

    private static void sixtyFour() {
        sentence = "all goes round in 64 bits";
        String two60 = "32768*32768*32768*32768";
        goes("go " + two60 + "*4", true);
        goes("go " + two60 + "*4-1+" + two60 + "*4", true);
        goes("go " + two60 + "*4-1+" + two60 + "*4+1", false);
        goes("go " + two60 + "*7", true);
        goes("go " + two60 + "*8", false);
        goes("go 1 if " + two60 + "*8 < 0", true);
        goes("go " + two60 + "*8-1", true);
        goes("go 0-" + two60 + "*8", false);
        goes("go 1 if 0-" + two60 + "*8 < 0", true);
        goes("go 0-" + two60 + "*8-1", true);
        is(two60 + "*16", "0");
        is(two60 + "*16+5", "5");
        is(two60 + "*15+" + two60, "0");
        // In 32 bits these would be 0, or below 0.
        goes("go 65536*65536", true);
        goes("go 32768*65536", true);
        goes("go 1 if 65536*65536 > 32768*65536", true);
        // The greatest is found in 64 bits, too.
        SmokeWord x = forced("valley 0 9;house 1 0 0;house 1 0 0;road 0 1 1;road 0 2 1", "go 65536*65536+1 if house=0;go 2");
        x.hour();
        due("2 to the 32nd and 1 against 2", x.count(6), 1);
    }

    private static void signs() {
        sentence = "SIGN one of < <= = >= >";
        String[] sign = {"<", "<=", "=", ">=", ">"};
        boolean[][] holds = {{true, false, false}, {true, true, false}, {false, true, false}, {false, true, true}, {false, false, true}};
        for (int s = 0; s < 5; s++) for (int v = 0; v < 3; v++) goes("go 1 if " + (6 + v) + sign[s] + "7", holds[s][v]);
        String[] held = {"1<2", "1<=2", "2<=2", "2=2", "2>=2", "3>=2", "3>2"};
        String[] not = {"2<2", "3<2", "3<=2", "1=2", "1>=2", "2>2", "1>2"};
        for (int i = 0; i < held.length; i++) {
            goes("go 1 if not " + held[i], false);
            goes("go 1 if not " + not[i], true);
            for (int j = 0; j < held.length; j++) {
                goes("go 1 if " + held[i] + " and " + held[j], true);
                goes("go 1 if " + held[i] + " and " + not[j], false);
                goes("go 1 if " + not[i] + " or " + held[j], true);
                goes("go 1 if " + not[i] + " or " + not[j], false);
            }
        }
        goes("go 1 if 0-1<0", true);
        goes("go 1 if 0-1>0", false);
        sentence = "or of PARTS, and of FACTS, not of a FACT";
        for (int a = 0; a < 2; a++) for (int b = 0; b < 2; b++) for (int c = 0; c < 2; c++) {
            String A = a + "=1", B = b + "=1", C = c + "=1";
            boolean p = a == 1, q = b == 1, r = c == 1;
            goes("go 1 if " + A + " or " + B + " and " + C, p || q && r);
            goes("go 1 if " + A + " and " + B + " or " + C, p && q || r);
            goes("go 1 if [" + A + " or " + B + "] and " + C, (p || q) && r);
            goes("go 1 if not " + A + " and " + B, !p && q);
            goes("go 1 if not [" + A + " and " + B + "] or " + C, !(p && q) || r);
            goes("go 1 if not not " + A + " or not " + B, p || !q);
        }
        sentence = "SUM: TERM { (+ or -) TERM }, TERM: VALUE { (* or / or %) VALUE }";
        is("2+3*4", "14");
        is("2*3+4", "10");
        is("20-3-4", "13");
        is("20-3*4-5", "3");
        is("100/7/2", "7");
        is("100%7*3", "6");
        is("7*3%5", "1");
        is("2+7/2*2", "8");
    }

    private static void words() {
        sentence = "WORDS of a HOUSE to which there is a way";
        is("house", "0");
        is("says", "6");
        is("worth", "50");
        is("smoke", "0");
        is("far", "1");
        is("near", "0");
        is("fires", "0");
        is("lost", "0");
        is("been", "0");
        is("water", "7");
        is("hour", "0");
        // Behind three HOURS house 1 has lost 1 + 2 + 3, house 2 has lost 2 + 3 + 4, and the brigade was at house 0 twice.
        String three = "valley 0 9;house 50 0 0;house 60 1 4;house 70 2 5;road 0 1 2;road 1 2 3;road 2 3 9;beside 0 1;beside 0 2;beside 1 2";
        String[] then = {"house=0", "says=0", "worth=50", "smoke=0", "far=0", "near=2", "fires=2", "lost=15", "been=2", "water=0", "hour=3"};
        String[] there = {"house=2", "says=5", "worth=61", "smoke=1", "far=12", "near=1", "fires=2", "lost=15", "been=0", "water=0", "hour=3"};
        for (int w = 0; w < then.length; w++) {
            due(then[w], wordsSend(three, then[w] + " and house=0;go 1 if house=1", 1), 1);
            due(there[w], wordsSend(three, there[w] + " and house=2;go 1 if house=1", 3), 3);
        }
        sentence = "a HOUSE to which there is no way is not weighed";
        SmokeWord x = forced("valley 0 9;house 1 0 0;house 1 0 0;road 0 1 1", "go house+1");
        x.hour();
        due("count(6)", x.count(6), 1);
        due("count(7)", x.count(7), -1);
    }
    /** Where the brigade, sent to house 0 by hand, is or is on its way to in its fourth HOUR, by this TEST. */
    private static int wordsSend(String valley, String test, int place) {
        SmokeWord x = forced(valley, "go 0");
        rule(x, "go 2 if " + test);
        x.send(0);
        hours(x, 3);
        x.force(1);
        x.hour();
        return x.count(7) != -1 ? x.count(7) : x.count(6) == place ? place : -1;
    }

    // ---- an HOUR

    private static void sent() {
        sentence = "for which the SUM is greatest, if it is above 0";
        goes("go 1", true);
        goes("go 0", false);
        goes("go 0-1", false);
        goes("go 1-1", false);
        sentence = "the first CLAUSE without a TEST, or whose TEST holds (0 without)";
        goes("go 1 if 1=2", false);
        goes("go 1 if 1=2;go 1", true);
        goes("go 0;go 1", false);
        goes("go 0 if 1=1;go 1", false);
        goes("go 0 if 1=2;go 1 if 1=2", false);
        goes("go 0 if 1=2;go 1 if 1=1;go 0", true);
        goes("go 0 if 1=2" + ";go 0 if 1=2".repeat(10) + ";go 1", true);
        sentence = "of several the least";
        String two = "valley 0 9;house 9 1 3;house 9 1 3;road 0 1 1;road 0 2 1";
        due("2 and 2", hours(forced(two, "go 2"), 1).count(6), 1);
        due("2 and 3", hours(forced(two, "go 2+house"), 1).count(6), 2);
        due("3 and 2", hours(forced(two, "go 3-house"), 1).count(6), 1);
        due("without a RULE 3 and 3", hours(of(two), 1).count(6), 1);
        due("without a RULE 3 and 4", hours(of(two.replace("1 3;road", "1 4;road")), 1).count(6), 2);
        due("without a RULE 4 and 3", hours(of(two.replace("1 3;house", "1 4;house")), 1).count(6), 1);
        sentence = "without a RULE to the one of those that have HEAT whose smoke SAYS most, if that is above 0";
        due("HEAT 1, SAYS 0", hours(of("valley 0 9;house 9 1 0;road 0 1 1"), 1).count(6), 0);
        due("HEAT 1, SAYS 1", hours(of("valley 0 9;house 9 1 1;road 0 1 1"), 1).count(6), 1);
        due("HEAT 0, SAYS 20", hours(of("valley 0 9;house 9 0 20;road 0 1 1"), 1).count(6), 0);
        due("HEAT 0, SAYS 20 and HEAT 1, SAYS 1",
            hours(of("valley 0 9;house 9 0 20;house 9 1 1;road 0 1 1;road 0 2 1"), 1).count(6), 2);
        due("no way", hours(of("valley 0 9;house 9 1 20;house 9 1 1;road 0 2 1"), 1).count(6), 2);
        sentence = "if that is a HOUSE with HEAT, it stays";
        SmokeWord x = forced("valley 0 9;house 5 1 0;house 9 0 0;road 0 1 1;road 1 2 1", "go 1+house if far<2");
        hours(x, 1);
        due("at the fire", x.count(6), 1);
        hours(x, 1);
        due("it stays, its WORTH being 2 yet", x.count(6), 1);
        hours(x, 1);
        due("it stays for the last HOUR of the fire", x.count(6), 1);
        hours(x, 1);
        due("it is sent on when that is out", x.count(6), 2);
        SmokeWord sixth = forced("valley 0 9" + ";house 5 0 0".repeat(5) + ";house 9 1 0;road 0 6 1;road 6 1 1", "go 1+house if hour=0;go 9-house");
        hours(sixth, 2);
        due("at the sixth HOUSE, too", sixth.count(6), 6);
        due("nor is it on its way", sixth.count(7), -1);
        sentence = "where it is, too: 0 HOURS";
        SmokeWord y = forced("valley 0 9;house 5 0 0;house 9 0 0;road 0 1 1;road 1 2 1", "go 9-far if far<2");
        hours(y, 1);
        due("it is sent to the nearest", y.count(6), 1);
        hours(y, 1);
        due("which is where it is", y.count(6), 1);
        due("it has been there", y.house(0, 4), 2);
    }

    private static void onItsWay() {
        sentence = "Is it on its way, an HOUR of it is gone; are all, it is there";
        for (int road = 1; road <= 9; road++) {
            if (road > 2 && road < 8) continue;
            SmokeWord x = forced("valley 0 9;house 9 0 0;road 0 1 " + road, "go 1");
            for (int h = 1; h < road; h++) {
                x.hour();
                due("behind " + h + " of " + road + " HOURS count(6)", x.count(6), 0);
                due("count(7)", x.count(7), 1);
                due("count(8)", x.count(8), road - h);
                due("house(0, 4)", x.house(0, 4), 0);
            }
            x.hour();
            due("behind all " + road + " count(6)", x.count(6), 1);
            due("count(7)", x.count(7), -1);
            due("count(8)", x.count(8), 0);
            due("house(0, 4)", x.house(0, 4), 1);
        }
        sentence = "HOURS by the shortest ways";
        String row = "valley 0 1" + ";house 1 0 0".repeat(6);
        for (int h = 0; h < 6; h++) row += ";road " + h + " " + (h + 1) + " 9";
        due("six roads of 9", of(row).far(0, 6), 54);
        due("back", of(row).far(6, 0), 54);
        due("one road of 9 against 2 of 4", of("valley 0 1;house 1 0 0;house 1 0 0;road 0 1 9;road 0 2 4;road 2 1 4").far(0, 1), 8);
        due("one road of 8 against 2 of 4", of("valley 0 1;house 1 0 0;house 1 0 0;road 0 1 8;road 0 2 4;road 2 1 4").far(0, 1), 8);
        due("one road of 7 against 2 of 4", of("valley 0 1;house 1 0 0;house 1 0 0;road 0 1 7;road 0 2 4;road 2 1 4").far(0, 1), 7);
        due("send over all", of(row).send(5), 54);
        due("over the pump", of("valley 0 1;house 1 0 0;house 1 0 0;road 0 1 3;road 2 0 4").far(1, 2), 7);
        due("over the last", of("valley 0 1" + ";house 1 0 0".repeat(6) + ";road 0 6 3;road 6 1 4").far(1, 0), 7);
    }

    private static void poured() {
        sentence = "that has WATER less HEAT, 0 at least";
        // Of heat 3 with 2, 3 and 4 of water: 1 is left, which burns and grows; none is left.
        int[][] then = {{49, 2}, {50, 0}, {50, 0}};
        for (int water = 2; water <= 4; water++) {
            SmokeWord x = of("valley " + water + " 9;house 50 3 1;road 0 1 1");
            due("WORTH lost with " + water, x.hour(), 50 - then[water - 2][0]);
            due("WORTH with " + water, x.house(0, 0), then[water - 2][0]);
            due("HEAT with " + water, x.house(0, 1), then[water - 2][1]);
        }
        SmokeWord none = of("valley 0 9;house 50 3 1;road 0 1 1");
        due("WORTH lost with 0", none.hour(), 3);
        due("HEAT with 0", none.house(0, 1), 4);
        sentence = "it has been there this HOUR (with HEAT or none)";
        due("with HEAT", none.house(0, 4), 1);
        due("with none", hours(forced("valley 0 9;house 50 0 1;road 0 1 1", "go 1"), 1).house(0, 4), 1);
        SmokeWord there = hours(forced("valley 0 9;house 50 0 1;house 9 0 0;road 0 1 1;road 1 2 2", "go 1+house if hour>0;go 1-house"), 1);
        due("there", there.house(0, 4), 1);
        hours(there, 1);
        due("on its way it is there no more", there.house(0, 4), 1);
        due("nor there yet", there.house(1, 4), 0);
    }

    private static void burnt() {
        sentence = "loses as much WORTH as it has HEAT, at most all";
        int[][] then = {{4, 4, 0}, {5, 5, 0}, {5, 6, 1}};
        for (int[] t : then) {
            SmokeWord x = of("valley 0 9;house " + t[1] + " 5 0");
            due("lost of " + t[1], x.hour(), t[0]);
            due("left of " + t[1], x.house(0, 0), t[2]);
            due("count(11)", x.count(11), t[0]);
        }
        sentence = "one without WORTH has no HEAT";
        due("WORTH 4, HEAT 5", hours(of("valley 0 9;house 4 5 0"), 1).house(0, 1), 0);
        due("WORTH 5, HEAT 5", hours(of("valley 0 9;house 5 5 0"), 1).house(0, 1), 0);
        due("WORTH 6, HEAT 5", hours(of("valley 0 9;house 6 5 0"), 1).house(0, 1), 6);
        sentence = "one with HEAT has 1 more, 9 at most";
        due("7", hours(of("valley 0 9;house 99 7 0"), 1).house(0, 1), 8);
        due("8", hours(of("valley 0 9;house 99 8 0"), 1).house(0, 1), 9);
        due("9", hours(of("valley 0 9;house 99 9 0"), 1).house(0, 1), 9);
        due("0", hours(of("valley 0 9;house 99 0 0"), 1).house(0, 1), 0);
        due("1", hours(of("valley 0 9;house 99 1 0"), 1).house(0, 1), 2);
    }

    private static int leapt(int leap, String one, String other) {
        return hours(of("valley 0 " + leap + ";house " + one + " 0;house " + other + " 0;beside 0 1"), 1).house(1, 1);
    }

    private static void leaps() {
        sentence = "has HEAT 1, if a HOUSE beside it has LEAP or more (ahead of having 1 more)";
        due("LEAP 4, HEAT 3", leapt(4, "50 3", "50 0"), 0);
        due("LEAP 4, HEAT 4", leapt(4, "50 4", "50 0"), 1);
        due("LEAP 4, HEAT 5", leapt(4, "50 5", "50 0"), 1);
        due("LEAP 1, HEAT 0", leapt(1, "50 0", "50 0"), 0);
        due("LEAP 1, HEAT 1", leapt(1, "50 1", "50 0"), 1);
        due("LEAP 9, HEAT 8", leapt(9, "50 8", "50 0"), 0);
        due("LEAP 9, HEAT 9", leapt(9, "50 9", "50 0"), 1);
        sentence = "a HOUSE beside it (.. having WORTH)";
        due("WORTH 3 of HEAT 4", leapt(4, "3 4", "50 0"), 0);
        due("WORTH 4 of HEAT 4", leapt(4, "4 4", "50 0"), 0);
        due("WORTH 5 of HEAT 4", leapt(4, "5 4", "50 0"), 1);
        sentence = "one with WORTH and no HEAT has HEAT 1";
        due("without WORTH", leapt(4, "50 4", "0 0"), 0);
        due("WORTH 1", leapt(4, "50 4", "1 0"), 1);
        due("with HEAT 1 it has 1 more", leapt(4, "50 4", "50 1"), 2);
        due("its last WORTH lost", leapt(4, "50 4", "1 1"), 0);
        sentence = "all by how it is then";
        SmokeWord x = hours(of("valley 0 1;house 50 1 0;house 50 0 0;house 50 0 0;beside 0 1;beside 1 2"), 1);
        due("house 1", x.house(1, 1), 1);
        due("house 2 waits an HOUR", x.house(2, 1), 0);
        due("house 2 then", hours(x, 1).house(2, 1), 1);
        SmokeWord y = hours(of("valley 0 1;house 50 0 0;house 50 0 0;house 50 1 0;beside 0 1;beside 1 2"), 1);
        due("house 0 waits an HOUR", y.house(0, 1), 0);
        due("not beside", hours(of("valley 0 1;house 50 9 0;house 50 0 0"), 1).house(1, 1), 0);
        // The water is ahead of it: of 5 there is 4 less 1, which is too little to leap.
        due("HEAT less WATER", hours(of("valley 1 5;house 50 5 1;house 50 0 0;beside 0 1;road 0 1 1"), 1).house(1, 1), 0);
        due("HEAT less WATER", hours(of("valley 1 4;house 50 5 1;house 50 0 0;beside 0 1;road 0 1 1"), 1).house(1, 1), 1);
        due("what was put out is lit again", hours(of("valley 9 9;house 50 5 1;house 50 9 0;beside 0 1;road 0 1 1"), 1).house(0, 1), 1);
    }

    private static void lastHour() {
        // 999 calls are more than the document asks of an object; the bound stands all the same.
        sentence = "HOUR is 1 more (999 at most by hand; HOURS that are asked go on beyond)";
        SmokeWord x = of("valley 1 9;house 99 0 1;house 9 0 0;road 0 1 2", "go 1 if hour>=1000", "go hour-1001 if house=0");
        due("hour 0", x.count(5), 0);
        x.hour();
        due("hour 1", x.count(5), 1);
        hours(x, 997);
        due("hour 998", x.count(5), 998);
        due("in HOUR 998", x.hour(), 0);
        due("hour 999", x.count(5), 999);
        int acts = x.count(13);
        due("in HOUR 999", x.hour(), -1);
        due("hour 999", x.count(5), 999);
        due("no ACT", x.count(13), acts);
        due("light", x.light(0), 99);
        due("in HOUR 999 with a fire", x.hour(), -1);
        due("WORTH", x.house(0, 0), 99);
        due("1 HOUR asked", x.left(1), 107);
        due("15 HOURS asked", x.force(0) == -1 ? x.left(15) : -9, 9 + 99 - 1 - 2 - 2 * 13);
        // Sent in HOUR 1000, there in 1001, where HEAT 3 is 2.
        due("FIRST's HOUR", x.first(1), 1001);
        x.force(-1);
        // Sent in HOUR 999, there in 1000, HEAT 2 less 1, each HOUR 1 lost, of 98 behind 999.
        due("OUT's HOUR", x.out(), 999 + 1 + 98);
        due("the word hour", x.force(1) == -1 ? x.ahead(0, 5, 2) : -9, 1);
        due("undone, it is 998 again", x.undo() >= 0 && x.undo() >= 0 ? x.count(5) : -9, 998);
        due("and an HOUR can be", x.hour(), 0);
    }

    private static void calls() {
        sentence = "An object is used for at most 512 calls";
        SmokeWord x = new SmokeWord();
        x.feed(0x76616c6c, 0x65792030, 0x20313b68, 0x6f757365, 0x20392030);
        x.feed(0x20330000, 0, 0, 0, 0);
        x.end(22);
        due("the 4th", x.valley(), 1);
        for (int i = 5; i <= 510; i++) due("the " + i + "th", x.hour(), 0);
        due("the 511th", x.count(5), 506);
        due("the 512th", x.say(0, 4), 3);
    }

    // ---- ACTS

    private static void lit() {
        sentence = "LIGHT (a HOUSE with WORTH and no HEAT has HEAT 1)";
        String three = "valley 0 9;house 0 0 0;house 1 0 0;house 5 1 0";
        due("WORTH 0", of(three).light(0), -1);
        due("WORTH 1", of(three).light(1), 1);
        due("HEAT 1", of(three).light(2), -1);
        SmokeWord x = of(three);
        x.light(1);
        due("HEAT", x.house(1, 1), 1);
        due("again", x.light(1), -1);
        due("-1", x.light(-1), -1);
        due("3", x.light(3), -1);
        due("of 0 HOUSES", of("valley 0 9").light(0), -1);
        due("without a VALLEY", new SmokeWord().light(0), -1);
        due("WORTH burnt", hours(of("valley 0 9;house 1 1 0"), 1).light(0), -1);
        sentence = "DOUSE (a HOUSE with HEAT has none)";
        due("HEAT 0", of(three).douse(1), -1);
        due("HEAT 1", of(three).douse(2), 1);
        due("HEAT 9", of("valley 0 9;house 5 9 0").douse(0), 9);
        SmokeWord y = of(three);
        y.douse(2);
        due("HEAT", y.house(2, 1), 0);
        due("again", y.douse(2), -1);
        due("WORTH stays", y.house(2, 0), 5);
        due("lit again", y.light(2), 5);
        due("-1", y.douse(-1), -1);
        due("3", y.douse(3), -1);
        due("of 0 HOUSES", of("valley 0 9").douse(0), -1);
        due("without a VALLEY", new SmokeWord().douse(0), -1);
    }

    private static void said() {
        sentence = "SAY (its smoke SAYS another number, 0 to 20)";
        SmokeWord x = of("valley 0 9;house 1 0 10;house 1 0 0");
        due("-1", x.say(0, -1), -1);
        due("21", x.say(0, 21), -1);
        due("the same", x.say(0, 10), -1);
        due("0", x.say(0, 0), 10);
        due("0 again", x.say(0, 0), -1);
        due("1", x.say(0, 1), 0);
        due("19", x.say(0, 19), 1);
        due("20", x.say(0, 20), 19);
        due("20 again", x.say(0, 20), -1);
        due("says", x.house(0, 2), 20);
        due("house 1 says", x.house(1, 2), 0);
        due("house -1", x.say(-1, 5), -1);
        due("house 2", x.say(2, 5), -1);
        due("ACTS", x.count(13), 4);
        due("without a VALLEY", new SmokeWord().say(0, 5), -1);
    }

    private static void sentByHand() {
        sentence = "SEND (the brigade, not on its way, is sent to a HOUSE to which there is a way, other than where it is)";
        String row = "valley 0 9;house 1 0 0;house 1 0 0;house 1 0 0;road 0 1 1;road 1 2 2";
        SmokeWord x = of(row);
        due("-1", x.send(-1), -1);
        due("3", x.send(3), -1);
        due("no way", x.send(2), -1);
        due("1 HOUR away", x.send(0), 1);
        due("on its way", x.send(0), -1);
        due("on its way", x.send(1), -1);
        x.hour();
        due("where it is", x.send(0), -1);
        due("from there", x.send(1), 2);
        x.hour();
        due("on its way for the last HOUR", x.send(0), -1);
        x.hour();
        due("there", x.send(0), 2);
        due("of 0 HOUSES", of("valley 0 9").send(0), -1);
        due("without a VALLEY", new SmokeWord().send(0), -1);
        due("from the pump over another", of(row).send(1), 3);
    }

    private static void undone() {
        sentence = "The last 20 can be UNDONE, the last first";
        for (int acts = 19; acts <= 21; acts++) {
            SmokeWord x = of("valley 0 9;house 1 0 0");
            for (int i = 1; i <= acts; i++) x.say(0, i % 20 + 1);
            int most = Math.min(acts, 20);
            due("count(13) behind " + acts, x.count(13), most);
            for (int i = acts - 1; i >= acts - most; i--) {
                due("undo behind " + acts, x.undo(), i - (acts - most));
                due("it says", x.house(0, 2), i == 0 ? 0 : i % 20 + 1);
            }
            due("none can", x.undo(), -1);
            due("it says", x.house(0, 2), acts == 21 ? 2 : 0);
        }
        SmokeWord z = new SmokeWord();
        due("without a VALLEY", z.undo(), -1);
        sentence = "ACTS: an HOUR; LIGHT; DOUSE; SAY; SEND";
        SmokeWord y = of("valley 0 9;house 9 0 0;house 9 0 0;road 0 1 3", "go 1");
        y.hour();
        y.light(0);
        y.douse(0);
        y.say(0, 1);
        y.send(0);
        due("all five", y.count(13), 5);
        y.force(0);
        y.seed(3);
        y.note(1, 1);
        y.image(0);
        y.left(5);
        y.feed(0, 0, 0, 0, 0);
        due("nothing else is one", y.count(13), 5);
        due("SEND", y.undo() * 10 + y.count(8), 40);
        due("SAY", y.undo() * 10 + y.house(0, 2), 30);
        due("DOUSE", y.undo() * 10 + y.house(0, 1), 21);
        due("LIGHT", y.undo() * 10 + y.house(0, 1), 10);
        due("an HOUR", y.undo() * 10 + y.count(5), 0);
        due("none", y.undo(), -1);
        due("the rest stays: count(4)", y.count(4), 0);
        due("the rest stays: count(14)", y.count(14), 3);
        due("the rest stays: count(12)", y.count(12), 1);
        // Behind undone ones new ones can be, 20 again at most.
        for (int i = 0; i < 30; i++) y.say(0, 1 + i % 2);
        for (int i = 0; i < 15; i++) y.undo();
        due("5 are left", y.count(13), 5);
        for (int i = 0; i < 14; i++) y.say(1, 1 + i % 2);
        due("19", y.count(13), 19);
        y.say(1, 20);
        due("20", y.count(13), 20);
        y.say(1, 19);
        due("20", y.count(13), 20);
    }

    public static void main(String[] args) {
        division(); sixtyFour(); signs(); words();
        sent(); onItsWay(); poured(); burnt(); leaps(); lastHour(); calls();
        lit(); said(); sentByHand(); undone();
        finish();
    }
}
