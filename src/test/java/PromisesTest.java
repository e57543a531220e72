/** For each promise of the document: ordinary inputs, the edges that it names, and wrong inputs. */
public final class PromisesTest extends Told {
    private static final String SMALL =
        "valley 3 4;house 40 2 5;house 30 0 3;house 20 3 9;road 0 1 2;road 1 2 1;road 0 3 3;beside 0 1";

    private static void due(int promise, String call, int got, int want) { due("promise " + promise, call, got, want); }

    private static void newObject() {
        SmokeWord x = new SmokeWord();
        for (int what = 0; what <= 15; what++)
            due(1, "count(" + what + ")", x.count(what), what == 4 || what == 7 ? SmokeWord.NONE : 0);
        due(1, "NONE", SmokeWord.NONE, -1);
        due(1, "house(0, 0)", x.house(0, 0), -1);
        due(1, "force(0)", x.force(0), -2);
        due(1, "force(NONE)", x.force(-1), -1);
        due(1, "undo()", x.undo(), -1);
        due(1, "back(0)", x.back(0), -1);
    }

    private static void feed() {
        SmokeWord x = new SmokeWord();
        for (int i = 1; i <= 19; i++) due(2, "feed", x.feed(0, 0, 0, 0, 0), 20 * i);
        due(2, "end(381)", x.end(381), -1);
        due(2, "feed the 20th", x.feed(0, 0, 0, 0, 0), 400);
        due(2, "feed the 21st", x.feed(0, 0, 0, 0, 0), -1);
        due(2, "count(15)", x.count(15), 400);
        x.end(381);
        due(2, "feed to 401", x.feed(0, 0, 0, 0, 0), -1);
        due(2, "count(15)", x.count(15), 381);
        x.end(380);
        due(2, "feed to 400", x.feed(0, 0, 0, 0, 0), 400);
        // The highest byte first: 'v' 'a' 'l' 'l' is 1986096236.
        SmokeWord y = new SmokeWord();
        y.feed(1986096236, 1702436912, 540097280, 0, 0);
        y.end(10);
        due(2, "valley()", y.valley(), 0);
        // Bytes above 127 are bytes like others: they stand nowhere.
        y.feed(-1, 0, 0, 0, 0);
        due(2, "valley() of byte 255", y.valley(), fault(0, 0));
    }

    private static void end() {
        SmokeWord x = new SmokeWord();
        due(3, "end(0)", x.end(0), 0);
        due(3, "end(1)", x.end(1), -1);
        x.feed(1, 2, 3, 4, 5);
        due(3, "end(21)", x.end(21), -1);
        due(3, "end(-1)", x.end(-1), -1);
        due(3, "count(15)", x.count(15), 20);
        due(3, "end(20)", x.end(20), 20);
        due(3, "end(7)", x.end(7), 7);
        due(3, "count(15)", x.count(15), 7);
        due(3, "end(8)", x.end(8), -1);
        due(3, "end(MIN)", x.end(Integer.MIN_VALUE), -1);
    }

    private static void bad(String text, int place, int kind) {
        SmokeWord x = of(SMALL);
        due(4, "valley of \"" + text + "\"", valley(x, text), fault(place, kind));
        due(4, "the tape behind it", x.count(15), text.length());
        due(4, "the houses behind it", x.count(2), 3);
    }

    private static void valley() {
        SmokeWord x = new SmokeWord();
        due(4, SMALL, valley(x, SMALL), 3);
        due(4, "the tape", x.count(15), 0);
        due(4, "water", x.count(0), 3);
        due(4, "leap", x.count(1), 4);
        due(4, "no blanks are needed", valley(x, "valley0 9;house0 0 0;house99 9 20"), 2);
        due(4, "blanks as one likes", valley(x, "  valley  00009   1  ;  house 1 1 1  "), 1);
        due(4, "a house without worth has no heat", valley(x, "valley 0 1;house 0 9 20"), 1);
        due(4, "its heat", x.house(0, 1), 0);
        bad("", 0, 0);
        bad("   ", 3, 0);
        bad("valley", 6, 0);
        bad("valley 10 1", 7, 1);
        bad("valley 0 0", 9, 1);
        bad("valley 0 10", 9, 1);
        bad("valley 000001 1", 7, 1);
        bad("house 0 0 0", 0, 4);
        bad(" road 0 1 1", 1, 4);
        bad("houses 0 0 0", 0, 0);
        bad("valley 0 1;valley 0 1", 11, 4);
        bad("valley 0 1; valley x", 12, 4);
        bad("valley 0 1;house 100 0 0", 17, 1);
        bad("valley 0 1;house 0 10 0", 19, 1);
        bad("valley 0 1;house 0 0 21", 21, 1);
        bad("valley 0 1;road 0 1 1", 18, 1);
        bad("valley 0 1;road 0 0 1", 18, 1);
        bad("valley 0 1;road 1 1 1", 16, 1);
        bad("valley 0 1;house 0 0 0;road 0 1 0", 32, 1);
        bad("valley 0 1;house 0 0 0;road 0 1 10", 32, 1);
        bad("valley 0 1;house 0 0 0;road 2 0 1", 28, 1);
        bad("valley 0 1;beside 0 1", 18, 1);
        bad("valley 0 1;house 0 0 0;beside 0 0", 32, 1);
        bad("valley 0 1;house 0 0 0;beside 0 1", 32, 1);
        bad("valleys 0 1", 0, 0);
        bad("valleyz 0 1", 0, 0);
        bad("valley{0 1", 6, 0);
        bad("valley 0:1", 8, 0);
        bad(";".repeat(400), 0, 0);
        bad("valley 0 1" + " ".repeat(389) + ";", 400, 0);
        bad("valley 0 1;", 11, 0);
        bad("valley 0 1 0", 11, 0);
        bad("valley 0 1;;", 11, 0);
        bad("valley x 1", 7, 0);
        bad("valley -1 1", 7, 0);
        bad("Valley 0 1", 0, 0);
        bad("valley 0 1; go 1", 12, 0);
        StringBuilder many = new StringBuilder("valley 1 1");
        for (int i = 0; i < 6; i++) many.append(";house 1 0 0");
        String six = many.toString();
        due(4, "six houses", valley(x, six), 6);
        bad(six + ";house 1 0 0", six.length() + 1, 4);
        bad(six + ";road 0 7 1", six.length() + 8, 1);
        bad(six + ";beside 0 6", six.length() + 10, 1);
        // 40 clauses go into 400 bytes, written as close as can be; there is no room for one more.
        String forty = "valley1 1;house1 0 0" + ";road0 1 1".repeat(38);
        due(4, "40 clauses", valley(x, forty), 1);
        bad(forty.substring(0, 399) + "0", 399, 1);
        bad(forty.substring(0, 390) + ";", 391, 0);
    }

    private static void valleyInPlace() {
        SmokeWord x = forced(SMALL, "go worth");
        x.seed(77);
        x.light(1);
        x.note(3, 1);
        hours(x, 2);
        due(4, "another valley", valley(x, "valley 1 2;house 9 1 4"), 1);
        due(4, "no notes", x.count(12), 0);
        due(4, "nothing to be undone", x.undo(), -1);
        due(4, "the rule in force stays", x.count(4), 0);
        due(4, "x stays", x.count(14), 77);
        due(4, "hour 0", x.count(5), 0);
        due(4, "at the pump", x.count(6), 0);
        due(4, "not on its way", x.count(7), -1);
        due(4, "nothing lost", x.count(11), 0);
        due(4, "worth", x.count(10), 9);
    }

    private static void badRule(String text, int place, int kind) {
        SmokeWord x = new SmokeWord();
        due(5, "rule of \"" + text + "\"", rule(x, text), fault(place, kind));
        due(5, "the tape behind it", x.count(15), text.length());
        due(5, "the rules behind it", x.count(3), 0);
    }

    private static void rule() {
        SmokeWord x = new SmokeWord();
        due(5, "first", rule(x, "go worth if smoke = 1 and far < 3"), 0);
        due(5, "the tape", x.count(15), 0);
        due(5, "close", rule(x, "go1if1<=2or[not not3>=house]and5%0=0;go99999"), 1);
        due(5, "10 deep", rule(x, "go 1 if [[[[[[[[[[1=1]]]]]]]]]]"), 2);
        due(5, "10 nots", rule(x, "go 1 if not not not not not not not not not not 1=1"), 3);
        due(5, "side by side is not within", rule(x, "go 1 if [1=1] and [1=1] and [[1=1]] or not 1=1"), 4);
        due(5, "faults do not count", rule(x, "go"), fault(2, 0));
        due(5, "sixth", rule(x, "go 1;go 1;go 1;go 1;go 1;go 1;go 1;go 1;go 1;go 1;go 1;go 1"), 5);
        due(5, "seventh", rule(x, "go 2"), -1);
        due(5, "nothing happens", x.count(15), 4);
        due(5, "seventh with a fault", rule(x, "go"), -1);
        badRule("", 0, 0);
        badRule("go", 2, 0);
        badRule("go 1 if", 7, 0);
        badRule("gos 1", 0, 0);
        badRule("goz 1", 0, 0);
        badRule("go mouse", 3, 0);
        badRule("go hours", 3, 0);
        badRule("go farz", 3, 0);
        badRule("go`1", 2, 0);
        badRule("go x", 3, 0);
        badRule("go 1 if " + "[".repeat(392), 18, 2);
        badRule("go 1;", 5, 0);
        badRule("go 1 if been = 1]", 16, 0);
        badRule("go 5 %", 6, 0);
        badRule("go 5 5", 5, 0);
        badRule("go 123456", 3, 1);
        badRule("go -1", 3, 0);
        badRule("go 1 < 2", 5, 0);
        badRule("go [1]", 3, 0);
        badRule("go 1 if 1", 9, 0);
        badRule("go 1 if 1 = = 1", 12, 0);
        badRule("go 1 if 1 < = 1", 12, 0);
        badRule("go 1 if 1 =< 1", 11, 0);
        badRule("go 1 if 1 == 1", 11, 0);
        badRule("go 1 if 1 = 1 = 1", 14, 0);
        badRule("go 1 if [1 = 1", 14, 0);
        badRule("go 1 if [1 = 1; go 1", 14, 0);
        badRule("go 1 if [1] = 1", 10, 0);
        badRule("go 1 if not", 11, 0);
        badRule("go 1 iff 1 = 1", 5, 0);
        badRule("go 1 if 1 = 1 andd 1 = 1", 14, 0);
        badRule("go valley", 3, 0);
        badRule("go not 1", 3, 0);
        badRule("house 1 1 1", 0, 0);
        badRule("go 1 if [[[[[[[[[[[1=1]]]]]]]]]]]", 18, 2);
        badRule("go 1 if [[[[[[[[[[not 1=1]]]]]]]]]]", 18, 2);
        badRule("go 1 if not not not not not not not not not not not 1=1", 48, 2);
        badRule("go 1 if not not not not not not not not not not [1=1]", 48, 2);
        badRule("go 1;go 1;go 1;go 1;go 1;go 1;go 1;go 1;go 1;go 1;go 1;go 1; go 1", 61, 4);
        badRule("go 1;go 1;go 1;go 1;go 1;go 1;go 1;go 1;go 1;go 1;go 1;go 1; if", 61, 0);
        String sixty = "go 1" + "+1".repeat(59);
        due(5, "60 values", rule(new SmokeWord(), sixty), 0);
        badRule(sixty + "+1", sixty.length() + 1, 3);
        badRule(sixty + "+x", sixty.length() + 1, 0);
        badRule(sixty + "+ 123456", sixty.length() + 2, 1);
        badRule(sixty + " if 1=1", sixty.length() + 4, 3);
        String less = "go 1" + "+1".repeat(57);
        badRule(less + " if 1 + 1 = 1", less.length() + 10, 3);
        badRule(less + " if 1=1", less.length() + 6, 3);
        due(5, "57 values, 2 and a fact", rule(new SmokeWord(), "go 1" + "+1".repeat(56) + " if 1=1"), 0);
        badRule("go 1" + "+1".repeat(56) + " if 1=1 or 1=1", 4 + 112 + 11, 3);
    }

    private static void force() {
        SmokeWord x = of(SMALL, "go worth", "go 1");
        due(6, "force(0)", x.force(0), -1);
        due(6, "force(1)", x.force(1), 0);
        due(6, "force(2)", x.force(2), -2);
        due(6, "force(-2)", x.force(-2), -2);
        due(6, "count(4)", x.count(4), 1);
        due(6, "force(1)", x.force(1), 1);
        due(6, "force(NONE)", x.force(-1), 1);
        due(6, "count(4)", x.count(4), -1);
        due(6, "force is no act", x.undo(), -1);
    }

    private static void house() {
        SmokeWord x = of(SMALL);
        int[][] all = {{40, 2, 5, 2, 0}, {30, 0, 3, 1, 0}, {20, 3, 9, 0, 0}};
        for (int h = 0; h < 3; h++)
            for (int w = 0; w < 5; w++) due(7, "house(" + h + ", " + w + ")", x.house(h, w), all[h][w]);
        due(7, "house(3, 0)", x.house(3, 0), -1);
        due(7, "house(-1, 0)", x.house(-1, 0), -1);
        due(7, "house(0, 5)", x.house(0, 5), -1);
        due(7, "house(0, -1)", x.house(0, -1), -1);
        SmokeWord y = of("valley 0 9;house 1 0 0;house 1 0 0;house 1 0 0;beside 0 2;beside 2 0;beside 1 2");
        due(7, "beside", y.house(2, 3), 3);
        due(7, "beside", y.house(0, 3), 4);
        // Its own hours on the way do not count, the hour of coming does, with heat or none.
        SmokeWord z = of("valley 0 9;house 9 0 0;road 0 1 2");
        z.send(0);
        hours(z, 1);
        due(7, "been", z.house(0, 4), 0);
        hours(z, 3);
        due(7, "been", z.house(0, 4), 3);
    }

    private static void far() {
        SmokeWord x = of(SMALL);
        due(8, "far(0, 0)", x.far(0, 0), 0);
        due(8, "far(3, 3)", x.far(3, 3), 0);
        due(8, "far(0, 2)", x.far(0, 2), 3);
        due(8, "far(2, 3)", x.far(2, 3), 6);
        due(8, "far(3, 2)", x.far(3, 2), 6);
        due(8, "far(4, 0)", x.far(4, 0), -1);
        due(8, "far(0, 4)", x.far(0, 4), -1);
        due(8, "far(-1, 0)", x.far(-1, 0), -1);
        due(8, "without a valley", new SmokeWord().far(0, 0), -1);
        SmokeWord y = of("valley 0 1;house 1 0 0;house 1 0 0;house 1 0 0;road 0 1 1;road 1 0 9;road 2 1 1;road 0 2 7;road 2 0 4");
        due(8, "the last told, and by the shortest ways", y.far(0, 1), 5);
        due(8, "the last told", y.far(0, 2), 4);
        due(8, "no way", y.far(0, 3), -2);
        due(8, "no way", y.far(3, 1), -2);
    }

    private static void hour() {
        SmokeWord x = of(SMALL);
        // To house 2, whose smoke says most: there in the third hour, and 3 water on heat 5.
        int[] lost = {5, 7, 6, 6, 8};
        int[][] worth = {{38, 30, 17}, {35, 30, 13}, {31, 30, 11}, {26, 29, 11}, {20, 27, 11}};
        int[][] heat = {{3, 0, 4}, {4, 0, 5}, {5, 1, 3}, {6, 2, 0}, {7, 3, 0}};
        int[][] brigade = {{0, 3, 2}, {0, 3, 1}, {3, -1, 0}, {3, -1, 0}, {3, 1, 4}};
        for (int i = 0; i < 5; i++) {
            due(9, "hour " + i, x.hour(), lost[i]);
            for (int h = 0; h < 3; h++) {
                due(9, "worth of " + h + " behind hour " + i, x.house(h, 0), worth[i][h]);
                due(9, "heat of " + h + " behind hour " + i, x.house(h, 1), heat[i][h]);
            }
            for (int w = 0; w < 3; w++) due(9, "count(" + (6 + w) + ") behind hour " + i, x.count(6 + w), brigade[i][w]);
        }
        due(9, "been", x.house(2, 4), 2);
        due(9, "without a valley", new SmokeWord().hour(), -1);
        SmokeWord old = of("valley 0 1");
        for (int i = 0; i < 999; i++) old.hour();
        due(9, "hour", old.count(5), 999);
        due(9, "in hour 999", old.hour(), -1);
        due(9, "hour", old.count(5), 999);
        due(9, "no act", old.count(13), 20);
    }

    private static void leap() {
        // House 0 has leap but loses all its worth in the hour: nothing leaps from it.
        SmokeWord x = of("valley 0 3;house 3 3 0;house 9 0 0;beside 0 1");
        due(9, "hour", x.hour(), 3);
        due(9, "heat", x.house(1, 1), 0);
        due(9, "heat", x.house(0, 1), 0);
        // With one more worth it leaps; ahead of having 1 more it must have leap.
        SmokeWord y = of("valley 0 3;house 4 3 0;house 9 0 0;beside 0 1");
        y.hour();
        due(9, "heat", y.house(1, 1), 1);
        SmokeWord z = of("valley 0 3;house 40 2 0;house 9 0 0;beside 0 1");
        z.hour();
        due(9, "heat of 2 does not leap", z.house(1, 1), 0);
        z.hour();
        due(9, "heat of 3 does", z.house(1, 1), 1);
        // 9 at most.
        SmokeWord m = of("valley 0 9;house 99 9 0");
        due(9, "hour", m.hour(), 9);
        due(9, "heat", m.house(0, 1), 9);
        // Water that takes all heat: the neighbour's fire leaps back in the same hour.
        SmokeWord w = of("valley 9 2;house 50 1 9;house 50 5 0;road 0 1 1;beside 0 1");
        due(9, "hour", w.hour(), 5);
        due(9, "heat", w.house(0, 1), 1);
    }

    private static void ruleInForce() {
        String three = "valley 2 9;house 50 1 1;house 60 1 1;house 70 0 1;road 0 1 1;road 0 2 2;road 0 3 3";
        String[][] to = {
            {"go worth", "3"}, {"go worth if smoke = 1", "2"}, {"go 9 - far", "1"}, {"go 0", "-1"}, {"go 1", "1"},
            {"go house", "3"}, {"go 5 if house = 1; go 7 if house = 2; go 6", "3"}, {"go 5 if house = 1;go 4", "2"},
            {"go 3 if worth > 60 or smoke = 1 and house = 1; go 2", "2"}, {"go house if not house = 2", "2"},
            {"go house if not [ house = 2 or house = 1 ]", "-1"}, {"go 10 - 3 * house % 2", "1"}, {"go 10 / house", "2"},
            {"go 10 % house", "-1"}, {"go 2 * house + 1", "3"}, {"go 7 - 2 - house * 3", "1"}, {"go fires - 1 - house", "1"},
            {"go water - house", "1"}, {"go 1 if hour > 0", "-1"}, {"go lost + been", "-1"}, {"go near", "-1"},
            {"go 0 - 7 / 2 + 4", "1"}, {"go says", "1"}, {"go house if 60000*60000*60000*60000 % 1000 = 0 - 616", "3"},
            {"go house if 60000*60000*60000*60000/99999/99999/99999 = 0 - 5486", "3"},
            {"go house if house - 9 / 2 * 2 < 0", "3"}, {"go 8 + house * house - 9 / 2 * house", "1"},
            {"go 99999 * 99999 * 99999 * 99999 if house = 0; go 1", "1"},
            {"go 60000 * 60000 * 60000 * 60000 if house = 0; go 1", "2"},
        };
        for (String[] row : to) {
            SmokeWord x = of(three);
            due(5, row[0], rule(x, row[0]), 0);
            x.force(0);
            x.hour();
            // Behind an hour house 0, an hour away, has been come to.
            int whither = x.count(7) != -1 ? x.count(7) : x.count(6) != 0 ? x.count(6) : -1;
            due(9, row[0], whither, Integer.parseInt(row[1]));
        }
        // Where it is counts too, at 0 hours; then it stays.
        SmokeWord x = forced(three, "go 5 - far");
        x.hour();
        due(9, "there", x.count(6), 1);
        hours(x, 1);
        due(9, "it stays", x.count(7), -1);
        due(9, "it stays", x.count(6), 1);
        due(9, "been", x.house(0, 4), 2);
        // A house to which there is no way is not weighed.
        SmokeWord y = forced("valley 2 9;house 9 1 1;house 9 1 1;road 0 1 1", "go house + 1");
        y.hour();
        due(9, "to house 0", y.count(6), 1);
        // Without a rule: smoke that says nothing calls nobody; of several that say as much the least.
        SmokeWord z = of("valley 2 9;house 9 1 0;house 9 1 2;house 9 1 2;house 9 0 9;road 0 1 1;road 0 2 1;road 0 3 1;road 0 4 1");
        z.hour();
        due(9, "to house 1", z.count(6), 2);
        SmokeWord none = of("valley 2 9;house 9 1 0;road 0 1 1");
        none.hour();
        due(9, "nowhere", none.count(6), 0);
    }

    private static void light() {
        SmokeWord x = of(SMALL);
        due(10, "light(1)", x.light(1), 30);
        due(10, "heat", x.house(1, 1), 1);
        due(10, "light(1) again", x.light(1), -1);
        due(10, "light(0) burns", x.light(0), -1);
        due(10, "light(3)", x.light(3), -1);
        due(10, "light(-1)", x.light(-1), -1);
        due(10, "acts", x.count(13), 1);
        due(10, "without a valley", new SmokeWord().light(0), -1);
        due(10, "without worth", of("valley 0 1;house 0 0 0").light(0), -1);
    }

    private static void douse() {
        SmokeWord x = of(SMALL);
        due(11, "douse(2)", x.douse(2), 3);
        due(11, "heat", x.house(2, 1), 0);
        due(11, "douse(2) again", x.douse(2), -1);
        due(11, "douse(1)", x.douse(1), -1);
        due(11, "douse(3)", x.douse(3), -1);
        due(11, "douse(-1)", x.douse(-1), -1);
        due(11, "acts", x.count(13), 1);
    }

    private static void say() {
        SmokeWord x = of(SMALL);
        due(12, "say(0, 20)", x.say(0, 20), 5);
        due(12, "says", x.house(0, 2), 20);
        due(12, "say(0, 20) again", x.say(0, 20), -1);
        due(12, "say(0, 21)", x.say(0, 21), -1);
        due(12, "say(0, -1)", x.say(0, -1), -1);
        due(12, "say(3, 1)", x.say(3, 1), -1);
        due(12, "say(0, 0)", x.say(0, 0), 20);
        due(12, "acts", x.count(13), 2);
    }

    private static void send() {
        SmokeWord x = of(SMALL);
        due(13, "send(3)", x.send(3), -1);
        due(13, "send(-1)", x.send(-1), -1);
        due(13, "send(1)", x.send(1), 3);
        due(13, "where", x.count(6), 0);
        due(13, "whither", x.count(7), 2);
        due(13, "hours", x.count(8), 3);
        due(13, "on its way", x.send(0), -1);
        hours(x, 3);
        due(13, "there", x.count(6), 2);
        due(13, "where it is", x.send(1), -1);
        due(13, "acts", x.count(13), 4);
        // By hand it leaves a fire, too.
        SmokeWord y = of("valley 0 9;house 50 1 1;house 50 0 0;road 0 1 1;road 1 2 2");
        y.hour();
        due(13, "at a fire", y.send(1), 2);
        due(13, "no way", of("valley 0 9;house 1 0 0").send(0), -1);
        due(13, "without a valley", new SmokeWord().send(0), -1);
    }

    private static void undo() {
        SmokeWord x = of(SMALL, "go 1");
        x.hour();
        x.light(1);
        x.say(0, 7);
        x.douse(2);
        due(14, "undo", x.undo(), 3);
        due(14, "heat", x.house(2, 1), 4);
        due(14, "undo", x.undo(), 2);
        due(14, "says", x.house(0, 2), 5);
        due(14, "undo", x.undo(), 1);
        due(14, "heat", x.house(1, 1), 0);
        x.force(0);
        x.seed(5);
        x.note(1, 1);
        due(14, "undo", x.undo(), 0);
        due(14, "hour", x.count(5), 0);
        due(14, "worth", x.count(10), 90);
        due(14, "lost", x.count(11), 0);
        due(14, "whither", x.count(7), -1);
        due(14, "force stays", x.count(4), 0);
        due(14, "x stays", x.count(14), 5);
        due(14, "notes stay", x.count(12), 1);
        due(14, "none can", x.undo(), -1);
        for (int i = 0; i < 25; i++) x.say(0, i % 2);
        due(14, "20 can", x.count(13), 20);
        for (int i = 19; i >= 0; i--) due(14, "undo", x.undo(), i);
        due(14, "none can", x.undo(), -1);
        due(14, "the sixth says", x.house(0, 2), 0);
        x.send(0);
        x.undo();
        due(14, "not sent", x.count(7), -1);
        // It was in how many hours, too.
        SmokeWord y = of("valley 0 9;house 9 0 0;road 0 1 1");
        y.send(0);
        y.hour();
        due(14, "been", y.house(0, 4), 1);
        y.undo();
        due(14, "been", y.house(0, 4), 0);
        due(14, "on its way again", y.count(8), 1);
    }

    private static void ahead() {
        SmokeWord x = of(SMALL);
        due(15, "heat", x.ahead(0, 5, 0), 7);
        due(15, "worth", x.ahead(0, 5, 1), 20);
        due(15, "worth", x.ahead(1, 4, 1), 29);
        due(15, "place", x.ahead(0, 2, 2), 0);
        due(15, "place", x.ahead(0, 3, 2), 3);
        due(15, "place of which it set out", x.ahead(77, 5, 2), 3);
        due(15, "0 hours", x.ahead(2, 0, 0), 3);
        due(15, "100 hours", x.ahead(0, 100, 0), 0);
        due(15, "101 hours", x.ahead(0, 101, 0), -1);
        due(15, "-1 hours", x.ahead(0, -1, 2), -1);
        due(15, "house 3", x.ahead(3, 1, 0), -1);
        due(15, "house -1", x.ahead(-1, 1, 1), -1);
        due(15, "what 3", x.ahead(0, 1, 3), -1);
        due(15, "what -1", x.ahead(0, 1, -1), -1);
        due(15, "without a valley", new SmokeWord().ahead(0, 0, 2), -1);
        due(15, "nothing changes", x.count(5), 0);
        due(15, "nothing changes", x.count(10), 90);
        due(15, "no houses", of("valley 0 1").ahead(0, 100, 2), 0);
    }

    private static void left() {
        SmokeWord x = of(SMALL);
        int[] all = {90, 85, 78, 72, 66, 58};
        for (int n = 0; n < 6; n++) due(16, "left(" + n + ")", x.left(n), all[n]);
        due(16, "left(-1)", x.left(-1), -1);
        due(16, "left(101)", x.left(101), -1);
        due(16, "left(100)", x.left(100) >= 0 ? 1 : 0, 1);
        due(16, "without a valley", new SmokeWord().left(0), -1);
        due(16, "by the rule in force", forced("valley 9 9;house 50 1 0;road 0 1 1", "go 1").left(50), 50);
        due(16, "without it", of("valley 9 9;house 50 1 0;road 0 1 1").left(4), 40);
    }

    private static void out() {
        due(17, "without a valley", new SmokeWord().out(), -1);
        due(17, "now", of("valley 0 1;house 5 0 0").out(), 0);
        // 1 + 2 + 3 + 4 burn in four hours.
        SmokeWord x = of("valley 0 9;house 10 1 0");
        due(17, "out", x.out(), 4);
        hours(x, 2);
        due(17, "the hour is told by its number", x.out(), 4);
        hours(x, 3);
        due(17, "it is out", x.out(), 5);
        // Heat 2 with water 1 on it loses 1 each hour, for 99 hours; a longer fire there can't be, so -2 is not seen.
        due(17, "out", of("valley 1 9;house 99 2 1;road 0 1 1").out(), 99);
        due(17, "by the rule in force", forced("valley 9 9;house 99 2 0;road 0 1 4", "go 1").out(), 4);
    }

    private static void canBurn() {
        due(18, "without a valley", new SmokeWord().canBurn(), -1);
        due(18, "small", of(SMALL).canBurn(), 7);
        SmokeWord x = of("valley 0 9;house 1 1 0;house 0 0 0;house 1 0 0;house 1 0 0;house 1 0 0;house 1 0 0;"
            + "beside 0 1;beside 1 2;beside 0 5;beside 5 4");
        due(18, "not over one without worth", x.canBurn(), 1 + 32 + 16);
        due(18, "no fire", of("valley 0 9;house 1 0 0").canBurn(), 0);
    }

    private static void order() {
        SmokeWord x = of(SMALL);
        due(19, "n 0", x.order(0, 0), -3);
        due(19, "n 61", x.order(61, 0), -3);
        due(19, "what 6", x.order(5, 6), -3);
        due(19, "what -2", x.order(5, -2), -3);
        due(19, "without a valley", new SmokeWord().order(5, 0), -3);
        // In one hour nobody is anywhere: 85 left by each row, so 0 ahead of 2.
        due(19, "much", x.order(1, -1), 85);
        due(19, "first", x.order(1, 0), 0);
        due(19, "second", x.order(1, 1), 2);
        due(19, "third", x.order(1, 2), -2);
        due(19, "sixth", x.order(60, 5), -2);
        SmokeWord none = of("valley 0 9;house 7 0 0");
        due(19, "no fires", none.order(60, -1), 7);
        due(19, "no fires", none.order(60, 0), -2);
        // Two alike, but 1 is nearer: first 1 (heat 1, all taken in hour 0), then 0.
        SmokeWord y = of("valley 9 9;house 90 1 0;house 90 1 0;road 0 1 3;road 0 2 1");
        due(19, "best first", y.order(20, 0), 1);
        due(19, "best second", y.order(20, 1), 0);
        // 1 saved at once; 0 loses 1 + 2 + 3 + 4 in the hours 0 to 3 and is come to in hour 4.
        due(19, "much", y.order(20, -1), 180 - 10);
        // The best row as such, whatever the rule in force says.
        rule(y, "go 0");
        y.force(0);
        due(19, "much", y.order(20, -1), 170);
        // No way to 0: 1 is gone to at once, so by each row as much is left.
        SmokeWord z = of("valley 9 9;house 90 1 0;house 90 1 0;road 0 2 1");
        due(19, "first", z.order(10, 0), 0);
        due(19, "second", z.order(10, 1), 1);
        // 0 burns: 1 + 2 + .. + 9 and 9.
        due(19, "much", z.order(10, -1), 90 + 90 - 45 - 9);
        due(19, "nothing changes", z.count(5), 0);
    }

    private static void heard() {
        SmokeWord x = of("valley 9 9;house 99 1 4;house 99 1 7;road 0 1 9;road 0 2 9");
        // Both 9 hours away, 18 from one another: 7 is heard first, so 0 must say 7, or more, of several the least.
        due(20, "heard(0)", x.heard(0), 7);
        due(20, "heard(1)", x.heard(1), 5);
        due(20, "heard(2)", x.heard(2), -1);
        due(20, "heard(-1)", x.heard(-1), -1);
        due(20, "without a valley", new SmokeWord().heard(0), -1);
        due(20, "by none", of("valley 9 9;house 99 1 4").heard(0), -2);
        due(20, "no fire", of("valley 9 9;house 99 0 4;road 0 1 1").heard(0), -2);
        due(20, "by a rule that does not listen", forced("valley 9 9;house 99 1 4;road 0 1 1", "go 1").heard(0), 0);
        due(20, "by a rule that does", forced("valley 9 9;house 99 1 4;road 0 1 1", "go says - 19").heard(0), 20);
        // House 1 is lit in hour 8 and burns from 9 to 23: in the 20th hour from now on is soon enough.
        String late = "valley 1 9;house 99 1 0;house 99 0 0;beside 0 1;road 0 2 1";
        due(20, "in the 20th hour", forced(late, "go 1 if hour >= 19").heard(1), 0);
        due(20, "in the 21st", forced(late, "go 1 if hour >= 20").heard(1), -2);
        SmokeWord y = of("valley 9 9;house 99 1 4;road 0 1 1");
        due(20, "alone", y.heard(0), 1);
        due(20, "says is as it was", y.house(0, 2), 4);
        y.send(0);
        due(20, "sent by hand", y.heard(0), 0);
    }

    private static void water() {
        SmokeWord x = of("valley 0 9;house 30 3 1;road 0 1 1");
        // Heat 3: with water 0 it loses 3 + 4 + .. + 7 and the rest in hour 5: 25, then 30. In 5 hours some is left.
        due(21, "5 hours", x.water(5), 0);
        // Water 1: heat 2 each hour, 2 lost each hour: 15 hours to lose 30.
        due(21, "6 hours", x.water(6), 1);
        due(21, "14 hours", x.water(14), 1);
        due(21, "15 hours", x.water(15), 2);
        due(21, "60 hours", x.water(60), 2);
        due(21, "0 hours", x.water(0), -1);
        due(21, "61 hours", x.water(61), -1);
        due(21, "without a valley", new SmokeWord().water(5), -1);
        due(21, "by none", of("valley 9 9;house 30 3 1").water(60), -2);
        due(21, "no worth now is none then", of("valley 9 9;house 0 0 1;house 5 0 0").water(60), 0);
        due(21, "by a rule that knows", forced("valley 9 9;house 30 3 1;road 0 1 1", "go 1 if water = 5").water(60), 5);
        due(21, "by 9 alone", forced("valley 0 9;house 30 3 1;road 0 1 1", "go 1 if water = 9").water(60), 9);
        due(21, "the last 1 of worth counts now", of("valley 9 9;house 1 1 0").water(1), -2);
        due(21, "the last 1 of worth counts then", of("valley 9 9;house 2 1 0").water(1), 0);
        due(21, "nothing changes", x.count(0), 0);
    }

    private static void clear() {
        SmokeWord x = of("valley 0 3;house 50 3 0;house 60 0 0;house 70 0 0;beside 0 1;beside 1 2");
        // Emptying 0 takes the fire with it.
        due(22, "which", x.clear(60, 0), 0);
        due(22, "how much", x.clear(60, 1), 180);
        SmokeWord y = of("valley 0 3;house 20 3 0;house 60 0 0;house 70 0 0;house 20 3 0;beside 0 1;beside 1 2;beside 3 1");
        // 0 or 3 emptied leaves the other fire; 1 emptied keeps 60 and 70 and loses 20 and 20.
        due(22, "which", y.clear(60, 0), 1);
        due(22, "how much", y.clear(60, 1), 130);
        SmokeWord z = of("valley 0 3;house 20 0 0;house 60 0 0");
        due(22, "none", z.clear(60, 0), -1);
        due(22, "how much", z.clear(60, 1), 80);
        SmokeWord two = of("valley 0 3;house 20 1 0;house 20 1 0");
        due(22, "the least", two.clear(60, 0), 0);
        due(22, "how much", two.clear(60, 1), 20);
        due(22, "n 0", x.clear(0, 0), -2);
        due(22, "n 61", x.clear(61, 0), -2);
        due(22, "what 2", x.clear(1, 2), -2);
        due(22, "what -1", x.clear(1, -1), -2);
        due(22, "without a valley", new SmokeWord().clear(1, 0), -2);
        due(22, "nothing changes", x.count(10), 180);
        // What is cleared is saved, not lost: by "lost" nobody is sent.
        due(22, "not lost", forced("valley 9 9;house 50 0 0;house 20 1 0;road 0 2 1", "go 1 if lost >= 50; go 0").clear(1, 1), 20 + 50);
    }

    private static void silent() {
        // House 0 calls, but 1 has more to lose: best that 0 is silent.
        SmokeWord x = of("valley 9 9;house 5 1 9;house 90 1 3;road 0 1 9;road 0 2 1");
        due(23, "how many", x.silent(60, 0), 1);
        due(23, "the set", x.silent(60, 1), 1);
        due(23, "worth", x.silent(60, 2), 90);
        due(23, "n 0", x.silent(0, 0), -1);
        due(23, "n 61", x.silent(61, 0), -1);
        due(23, "what 3", x.silent(1, 3), -1);
        due(23, "what -1", x.silent(1, -1), -1);
        due(23, "without a valley", new SmokeWord().silent(1, 0), -1);
        due(23, "says is as it was", x.house(0, 2), 9);
        due(23, "1 hour", x.silent(1, 0), 1);
        due(23, "1 hour", x.silent(1, 2), 94);
        SmokeWord y = of("valley 0 9;house 5 1 9;house 90 1 3");
        due(23, "none", y.silent(60, 0), 0);
        due(23, "none", y.silent(60, 1), 0);
        due(23, "no houses", of("valley 0 9").silent(60, 2), 0);
        // 0 and 1 both call it away from 2.
        SmokeWord z = of("valley 9 9;house 1 1 9;house 1 1 9;house 90 1 3;road 0 1 9;road 0 2 9;road 0 3 1");
        due(23, "two", z.silent(60, 0), 2);
        due(23, "the set", z.silent(60, 1), 3);
        due(23, "worth", z.silent(60, 2), 90);
    }

    private static void silentOfSeveral() {
        // Who says nothing is gone to, and only one can be in time: of the sets 1, 2 and 3 the least of the fewest.
        SmokeWord x = forced("valley 9 9;house 90 1 5;house 90 1 5;road 0 1 1;road 0 2 1", "go 9 if says = 0 and smoke = 1");
        due(23, "how many", x.silent(2, 0), 1);
        due(23, "the set", x.silent(2, 1), 1);
        due(23, "worth", x.silent(2, 2), 90 + 87);
        // In five hours both can be saved, if both are silent.
        due(23, "how many", x.silent(5, 0), 2);
        due(23, "the set", x.silent(5, 1), 3);
        due(23, "worth", x.silent(5, 2), 90 + 90 - 1 - 2);
        x.say(1, 1);
        due(23, "the set", x.silent(5, 1), 3);
        // One that says nothing anyway belongs to no set.
        x.say(0, 0);
        due(23, "how many", x.silent(5, 0), 1);
        due(23, "the set", x.silent(5, 1), 2);
    }

    private static void pence() {
        SmokeWord x = of("valley 0 9;house 99 1 0;house 99 1 0;house 99 1 0");
        due(24, "none is lost", x.pence(100, 0), 0);
        x.hour();
        due(24, "100 by 1 1 1", x.pence(100, 0), 34);
        due(24, "100 by 1 1 1", x.pence(100, 1), 33);
        due(24, "100 by 1 1 1", x.pence(100, 2), 33);
        due(24, "101 by 1 1 1", x.pence(101, 1), 34);
        due(24, "101 by 1 1 1", x.pence(101, 2), 33);
        due(24, "0", x.pence(0, 0), 0);
        due(24, "9999", x.pence(9999, 2), 3333);
        due(24, "10000", x.pence(10000, 0), -1);
        due(24, "-1", x.pence(-1, 0), -1);
        due(24, "house 3", x.pence(5, 3), -1);
        due(24, "house -1", x.pence(5, -1), -1);
        due(24, "without a valley", new SmokeWord().pence(5, 0), -1);
        SmokeWord one = of("valley 0 9;house 99 0 0;house 99 1 0");
        one.hour();
        due(24, "all to the one that lost 1", one.pence(77, 1), 77);
        due(24, "none to the other", one.pence(77, 0), 0);
        SmokeWord y = of("valley 0 9;house 99 1 0;house 99 4 0;house 99 0 0;house 99 2 0");
        y.hour();
        // 10 by 1, 4, 0, 2 of 7: 1 3/7, 5 5/7, 0, 2 6/7: the two left go to the last and the second.
        due(24, "10 by 1", y.pence(10, 0), 1);
        due(24, "10 by 4", y.pence(10, 1), 6);
        due(24, "10 by 0", y.pence(10, 2), 0);
        due(24, "10 by 2", y.pence(10, 3), 3);
    }

    private static final String ALIKE = "valley 9 9;house 90 1 0;house 90 1 0;road 0 1 1;road 0 2 1";

    private static void rests() {
        // Only one is come to in time, the one that says more (0 of two alike), and worth what it saves.
        SmokeWord x = of(ALIKE);
        due(25, "unlike", x.rests(0, 0, 5, 0), -1);
        due(25, "house 2", x.rests(0, 2, 5, 0), -1);
        due(25, "house -1", x.rests(-1, 0, 5, 0), -1);
        due(25, "n 0", x.rests(0, 1, 0, 0), -1);
        due(25, "n 21", x.rests(0, 1, 21, 0), -1);
        due(25, "what 3", x.rests(0, 1, 1, 3), -1);
        due(25, "what -1", x.rests(0, 1, 1, -1), -1);
        due(25, "without a valley", new SmokeWord().rests(0, 1, 1, 0), -1);
        // One hour: heat 1 loses 1, a fifth of 5 is 1: neither wins by more than nothing.
        // (0,0): each 89. By 5 one has 90 - 1 = 89: no more. (5,0): 89, 89: rest. (0,5): one by 5: 89 as well: rest.
        // (5,5): other by 0: 89 rather than 88: none.
        due(25, "how many", x.rests(0, 1, 1, 0), 3);
        due(25, "the first one", x.rests(0, 1, 1, 1), 0);
        due(25, "the second one", x.rests(0, 1, 1, 2), 0);
        due(25, "2 hours", x.rests(0, 1, 2, 0), restsByHand(of(ALIKE), 0, 1, 2));
        due(25, "20 hours", x.rests(1, 0, 20, 0), restsByHand(of(ALIKE), 1, 0, 20));
        due(25, "says is as it was", x.house(0, 2), 0);
        // Whoever says more is saved, and each wins by saying a little more than the other: nowhere is rest.
        SmokeWord z = of("valley 9 9;house 90 1 0;house 90 1 0;road 0 1 9;road 0 2 9");
        due(25, "how many", z.rests(0, 1, 10, 0), 0);
        due(25, "the first one", z.rests(0, 1, 10, 1), -2);
        due(25, "the second one", z.rests(0, 1, 10, 2), -2);
        // House 1 has too little to win by it, so it keeps still, and 0 says 5.
        SmokeWord v = of("valley 9 9;house 90 1 0;house 1 1 0;road 0 1 2;road 0 2 2");
        due(25, "how many", v.rests(0, 1, 10, 0), 1);
        due(25, "the first one", v.rests(0, 1, 10, 1), 5);
        due(25, "the second one", v.rests(0, 1, 10, 2), 0);
        due(25, "the other way round", v.rests(1, 0, 10, 1), 0);
        due(25, "the other way round", v.rests(1, 0, 10, 2), 5);
        // Nobody can come: both are best silent.
        SmokeWord y = of("valley 9 9;house 90 1 0;house 90 1 0");
        due(25, "how many", y.rests(0, 1, 20, 0), 1);
        due(25, "the first one", y.rests(0, 1, 20, 1), 0);
        due(25, "the second one", y.rests(0, 1, 20, 2), 0);
    }
    private static void first() {
        SmokeWord x = of(SMALL);
        due(26, "house", x.first(0), 2);
        due(26, "hour", x.first(1), 2);
        due(26, "what 2", x.first(2), -1);
        due(26, "what -1", x.first(-1), -1);
        due(26, "without a valley", new SmokeWord().first(0), -1);
        x.hour();
        due(26, "the hour is told by its number", x.first(1), 2);
        SmokeWord none = of("valley 1 9;house 9 1 0;road 0 1 1");
        due(26, "to none", none.first(0), -2);
        due(26, "to none", none.first(1), -2);
        // To be there with no heat is not to come.
        SmokeWord y = forced("valley 1 9;house 9 0 0;house 30 1 0;road 0 1 1;road 1 2 1", "go 9 if been = 0;go 0");
        due(26, "house", y.first(0), 1);
        due(26, "hour", y.first(1), 1);
        // Heat 1 burns 99 in the hours 0 to 14.
        String one = "valley 1 9;house 99 1 0;road 0 1 1";
        due(26, "in its last hour", forced(one, "go 1 if hour >= 14").first(1), 14);
        due(26, "too late", forced(one, "go 1 if hour >= 15").first(1), -2);
        // A row of six, each lit 9 hours behind the one beside it: the last has heat in the 60th hour, too.
        StringBuilder row = new StringBuilder("valley 1 9;house 99 1 0");
        for (int h = 1; h < 6; h++) row.append(";house 99 0 0;beside ").append(h - 1).append(" ").append(h);
        SmokeWord z = forced(row + ";road 0 6 1", "go 1 if hour >= 59");
        due(26, "house of the 60th hour", z.first(0), 5);
        due(26, "the 60th hour", z.first(1), 59);
        due(17, "out by then, with 1 water on its last 9", z.out(), 61);
    }

    private static void note() {
        SmokeWord x = new SmokeWord();
        due(27, "without a valley", x.note(0, 0), -2);
        due(27, "none, without a valley", x.note(-1, 0), -2);
        valley(x, SMALL);
        due(27, "n -2", x.note(-2, 0), -2);
        due(27, "n 61", x.note(61, 0), -2);
        due(27, "place -1", x.note(0, -1), -2);
        due(27, "place 4", x.note(0, 4), -2);
        due(27, "n 0", x.note(0, 0), 1);
        due(27, "n 60", x.note(60, 3), 2);
        due(27, "again", x.note(60, 3), 3);
        due(27, "none then", x.note(-1, 99), 0);
        due(27, "none", x.count(12), 0);
        for (int i = 1; i <= 10; i++) due(27, "note", x.note(i, 0), i);
        due(27, "the 11th", x.note(1, 0), -2);
        due(27, "ten", x.count(12), 10);
        due(27, "no act", x.count(13), 0);
    }

    private static final String TWO = "valley 9 9;house 90 1 5;house 90 1 3;road 0 1 2;road 0 2 2";

    private static void ruled() {
        SmokeWord x = of(TWO, "go house", "go 5 - house", "go 0");
        due(28, "all", x.ruled(0), 4);
        due(28, "none is ahead", x.ruled(1), -1);
        due(28, "what 2", x.ruled(2), -3);
        due(28, "what -1", x.ruled(-1), -3);
        due(28, "without a valley", new SmokeWord().ruled(0), -3);
        // Acts and the rule in force do not matter: from the begin on, as the text told it.
        x.say(1, 20);
        x.force(2);
        hours(x, 3);
        x.note(2, 1);
        due(28, "at house 0 at the begin of hour 2: none, and 1", x.ruled(0), 2);
        due(28, "first", x.ruled(1), -1);
        x.note(60, 1);
        due(28, "there for ever: rule 1", x.ruled(0), 1);
        due(28, "first", x.ruled(1), 1);
        x.note(60, 2);
        due(28, "at two places", x.ruled(0), 0);
        due(28, "first", x.ruled(1), -2);
        x.note(-1, 0);
        x.note(1, 0);
        due(28, "on its way: of which it set out", x.ruled(0), 4);
        x.note(2, 0);
        due(28, "never sent", x.ruled(1), 2);
        SmokeWord y = of("valley 1 9;house 9 0 0;road 0 1 1", "go 1 if hour >= 59", "go 1 if hour >= 60");
        y.note(60, 1);
        due(28, "at the begin of hour 60", y.ruled(0), 1);
        due(28, "at the begin of hour 60", y.ruled(1), 0);
    }

    private static void look() {
        SmokeWord x = of(TWO, "go house", "go 5 - house", "go 0");
        // At the begin of hour 2: none and rule 1 at house 0, rule 0 at house 1, rule 2 at the pump: two alike.
        // None: house 0 in hours 1 and 2, out then; in hour 2 to house 1, 4 hours: there at the begin of hour 6. Then 0, 1, 1, 2.
        due(29, "hour", x.look(0), 2);
        due(29, "how many", x.look(1), 2);
        due(29, "what 2", x.look(2), -1);
        due(29, "what -1", x.look(-1), -1);
        due(29, "without a valley", new SmokeWord().look(0), -1);
        x.note(2, 1);
        due(29, "hour at which none and rule 1 part", x.look(0), 6);
        due(29, "how many", x.look(1), 1);
        x.note(6, 1);
        due(29, "one is left: the first hour", x.look(0), 0);
        due(29, "how many", x.look(1), 1);
        // Hour 60 is the last to look at.
        String still = "valley 1 9;house 9 0 0;road 0 1 1";
        due(29, "hour 60", of(still, "go 1 if hour >= 59").look(0), 60);
        due(29, "how many", of(still, "go 1 if hour >= 59").look(1), 1);
        due(29, "hour 61 is too late", of(still, "go 1 if hour >= 60").look(0), 0);
        due(29, "how many", of(still, "go 1 if hour >= 60").look(1), 2);
        x.note(0, 2);
        due(29, "no rule is so", x.look(0), -2);
        due(29, "no rule is so", x.look(1), -2);
    }

    private static void seed() {
        SmokeWord x = new SmokeWord();
        due(30, "seed(7)", x.seed(7), 0);
        due(30, "seed(-1)", x.seed(-1), -1);
        due(30, "count(14)", x.count(14), 7);
        due(30, "seed(MAX)", x.seed(Integer.MAX_VALUE), 7);
        due(30, "seed(0)", x.seed(0), Integer.MAX_VALUE);
    }

    private static void sparks() {
        SmokeWord x = of("valley 0 9;house 50 0 0;house 60 0 0;house 70 0 0");
        due(31, "p 0: nothing", x.sparks(10, 60, 0, 0), 1800);
        due(31, "p 0: nothing", x.sparks(10, 60, 0, 1), 0);
        // x 0: 12345, its draw 0; then 1406932606 (21468, mod 3 = 0), so house 0 has heat 1.
        due(31, "the first spark", x.sparks(1, 1, 1, 0), 179);
        due(31, "the first spark", x.sparks(1, 1, 1, 1), 1);
        // Then 654583775, a draw of 9988, mod 100 = 88; then 1449466924, 22117, mod 3 = 1.
        due(31, "the second run draws on", x.sparks(2, 1, 88, 0), 179 + 180);
        due(31, "the second run draws on", x.sparks(2, 1, 89, 0), 179 + 179);
        due(31, "the second hour draws on", x.sparks(1, 2, 88, 0), 180 - 1 - 2);
        due(31, "the second hour draws on", x.sparks(1, 2, 89, 0), 180 - 1 - 2 - 1);
        due(31, "heat then", x.sparks(1, 2, 89, 1), 2);
        due(31, "x as it was", x.count(14), 0);
        due(31, "nothing stays", x.count(9), 0);
        due(31, "m 0", x.sparks(0, 1, 1, 0), -1);
        due(31, "m 11", x.sparks(11, 1, 1, 0), -1);
        due(31, "n 0", x.sparks(1, 0, 1, 0), -1);
        due(31, "n 61", x.sparks(1, 61, 1, 0), -1);
        due(31, "p -1", x.sparks(1, 1, -1, 0), -1);
        due(31, "p 101", x.sparks(1, 1, 101, 0), -1);
        due(31, "what 2", x.sparks(1, 1, 1, 2), -1);
        due(31, "what -1", x.sparks(1, 1, 1, -1), -1);
        due(31, "without a valley", new SmokeWord().sparks(1, 1, 1, 0), -1);
        due(31, "no houses", of("valley 0 9").sparks(10, 60, 100, 0), 0);
        due(31, "a house that burns stays as it is", of("valley 0 9;house 50 5 0").sparks(1, 1, 100, 0), 45);
        due(31, "one without worth is not lit", of("valley 0 9;house 0 0 0").sparks(1, 1, 100, 1), 0);
    }

    private static void count() {
        SmokeWord x = of(SMALL, "go 1");
        x.seed(9);
        x.note(4, 1);
        x.hour();
        x.feed(0, 0, 0, 0, 0);
        int[] all = {3, 4, 3, 1, -1, 1, 0, 3, 2, 5, 85, 5, 1, 1, 9, 20};
        for (int w = 0; w < 16; w++) due(32, "count(" + w + ")", x.count(w), all[w]);
        due(32, "count(16)", x.count(16), -1);
        due(32, "count(-1)", x.count(-1), -1);
        x.force(0);
        due(32, "count(4)", x.count(4), 0);
    }

    private static void image() {
        SmokeWord x = of(SMALL);
        hours(x, 3);
        due(33, "image(0)", x.image(0), 3);
        due(33, "image(3)", x.image(3), 3);
        due(33, "image(4)", x.image(4), -1);
        due(33, "image(-1)", x.image(-1), -1);
        due(33, "acts stay", x.count(13), 3);
        x.hour();
        due(33, "image(0) again", x.image(0), 4);
        due(33, "back(0)", x.back(0), 4);
        due(33, "without a valley", new SmokeWord().image(1), 0);
    }

    private static void back() {
        SmokeWord x = of(SMALL, "go worth", "go says");
        due(34, "never made", x.back(2), -1);
        due(34, "back(4)", x.back(4), -1);
        due(34, "back(-1)", x.back(-1), -1);
        x.force(1);
        x.seed(11);
        x.note(5, 2);
        hours(x, 2);
        due(34, "image(2)", x.image(2), 2);
        rule(x, "go 3");
        x.force(2);
        x.seed(12);
        x.note(6, 2);
        hours(x, 4);
        x.feed(1, 1, 1, 1, 1);
        due(34, "back(2)", x.back(2), 2);
        int[] all = {3, 4, 3, 3, 1, 2, 0, 3, 1, 5, 78, 12, 1, 0, 11, 20};
        for (int w = 0; w < 16; w++) due(34, "count(" + w + ")", x.count(w), all[w]);
        due(34, "nothing can be undone", x.undo(), -1);
        due(34, "the note is as it was", x.ruled(0), 0);
        x.end(0);
        valley(x, "valley 1 1");
        due(34, "back to another valley", x.back(2), 2);
        due(34, "its houses", x.house(2, 2), 9);
        due(34, "its ways", x.far(2, 3), 6);
        due(34, "its begin", x.pence(100, 0), 42);
        x.hour();
        due(34, "the image stays as it was", x.back(2), 2);
        due(34, "worth", x.count(10), 78);
        SmokeWord y = new SmokeWord();
        y.image(0);
        valley(y, SMALL);
        hours(y, 1);
        due(34, "back to no valley", y.back(0), 0);
        due(34, "no valley", y.left(0), -1);
        due(34, "no houses", y.count(2), 0);
        due(34, "no worth", y.count(10), 0);
    }

    private static void wildArguments() {
        int[] wild = {Integer.MIN_VALUE, -1000, -3, -2, -1, 0, 1, 5, 6, 7, 61, 101, 1000, Integer.MAX_VALUE};
        for (int state = 0; state < 2; state++) {
            SmokeWord x = state == 0 ? new SmokeWord() : forced(SMALL, "go worth / far");
            for (int a : wild) for (int b : wild) {
                x.house(a, b); x.far(a, b); x.light(a); x.douse(a); x.say(a, b); x.send(a); x.left(a); x.order(a, b);
                x.heard(a); x.water(a); x.clear(a, b); x.silent(a, b); x.pence(a, b); x.first(a); x.note(a, b);
                x.ruled(a); x.look(a); x.count(a); x.image(a); x.back(a); x.force(a); x.seed(a); x.end(a);
                for (int c : wild) { x.ahead(a, b, c); x.rests(a, b, c, 0); x.sparks(a, b, c, 0); x.rests(0, 1, a, b); }
            }
        }
    }

    public static void main(String[] args) {
        newObject(); feed(); end(); valley(); valleyInPlace(); rule(); force(); house(); far(); hour(); leap(); ruleInForce();
        light(); douse(); say(); send(); undo(); ahead(); left(); out(); canBurn(); order(); heard(); water(); clear();
        silent(); silentOfSeveral(); pence(); rests(); first(); note(); ruled(); look(); seed(); sparks(); count(); image(); back();
        wildArguments();
        finish();
    }
}
