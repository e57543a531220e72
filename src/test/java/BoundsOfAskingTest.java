import java.util.function.IntUnaryOperator;

/** The bounds of what is asked, of NOTES, DRAWS and IMAGES: each sentence at its bound, just within and just beyond. */
public final class BoundsOfAskingTest extends Told {
    /** The brigade keeps the fire at 1, so that house 0 loses 1 in each of 60 HOURS. */
    private static final String HELD = "valley 1 9;house 60 2 1;road 0 1 1";
    /** House 1 is lit behind HOUR 8, and kept at 1 from HOUR 10 on: at the begin of HOUR n, from 10 on, it has 108 - n. */
    private static final String LONG = "valley 1 9;house 99 1 0;house 99 0 5;beside 0 1;road 0 2 2";
    private static final String STILL = "valley 1 9;house 9 0 0;road 0 1 1";
    private static final String TWO = "valley 9 9;house 90 1 5;house 90 1 3;road 0 1 2;road 0 2 2";
    private static String sentence;

    private static void due(String call, int got, int want) { due(sentence, call, got, want); }

    /** A number that may be from least to most: at and within these the answer is not the refusal, beyond them it is. */
    private static void range(String call, IntUnaryOperator asked, int least, int most, int refusal) {
        for (int n : new int[] {least, least + 1, most - 1, most})
            due(call + " of " + n + " is refused", asked.applyAsInt(n) == refusal ? 1 : 0, 0);
        for (int n : new int[] {least - 1, most + 1, Integer.MIN_VALUE, Integer.MAX_VALUE})
            due(call + " of " + n, asked.applyAsInt(n), refusal);
    }

    // ---- house, far

    private static void told() {
        sentence = "house: of a HOUSE what 0 to 4; NONE without these";
        SmokeWord x = of("valley 0 9;house 1 1 1;house 1 1 1;house 1 1 1;beside 0 1;beside 1 2;road 0 1 1");
        x.send(0);
        x.hour();
        range("house", h -> of("valley 0 9;house 1 1 1;house 1 1 1;house 1 1 1").house(h, 2), 0, 2, -1);
        range("what", w -> x.house(0, w), 0, 4, -1);
        due("of 0 HOUSES", of("valley 0 9").house(0, 0), -1);
        due("without a VALLEY", new SmokeWord().house(0, 0), -1);
        sentence = "far: between two PLACES (0 of one to itself); -2: there is no way; NONE without these";
        range("from", p -> x.far(p, 1), 0, 3, -1);
        range("to", p -> x.far(1, p), 0, 3, -1);
        for (int p = 0; p <= 3; p++) due("to itself", x.far(p, p), 0);
        due("far(4, 4)", x.far(4, 4), -1);
        due("far(-1, -1)", x.far(-1, -1), -1);
        due("a way", x.far(1, 0), 1);
        due("no way", x.far(0, 2), -2);
        due("no way", x.far(3, 2), -2);
        due("of 0 HOUSES", of("valley 0 9").far(0, 0), 0);
        due("of 0 HOUSES", of("valley 0 9").far(0, 1), -1);
        due("without a VALLEY", new SmokeWord().far(0, 0), -1);
    }

    // ---- ahead, left, out, canBurn

    private static void ahead() {
        sentence = "AHEAD n HOURS (0 to 100)";
        SmokeWord x = of(LONG);
        range("n", n -> x.ahead(0, n, 1), 0, 100, -1);
        int[][] worth = {{0, 99}, {9, 99}, {10, 98}, {11, 97}, {99, 9}, {100, 8}};
        for (int[] w : worth) due("WORTH behind " + w[0], x.ahead(1, w[0], 1), w[1]);
        due("HEAT behind 8", x.ahead(1, 8, 0), 0);
        due("HEAT behind 9", x.ahead(1, 9, 0), 1);
        due("HEAT behind 100", x.ahead(1, 100, 0), 2);
        SmokeWord late = forced(STILL, "go 1 if hour>=99");
        due("PLACE behind 99", late.ahead(0, 99, 2), 0);
        due("PLACE behind 100", late.ahead(0, 100, 2), 1);
        sentence = "AHEAD: the PLACE (of which it set out, if on its way)";
        due("on its way", x.ahead(0, 10, 2), 0);
        due("there", x.ahead(0, 11, 2), 2);
        sentence = "AHEAD what 0: HEAT, 1: WORTH, 2: the PLACE (house is not asked). NONE without these, or a VALLEY";
        range("what", w -> x.ahead(0, 0, w), 0, 2, -1);
        range("house for HEAT", h -> x.ahead(h, 0, 0), 0, 1, -1);
        range("house for WORTH", h -> x.ahead(h, 0, 1), 0, 1, -1);
        for (int h : new int[] {-1, 2, 99, Integer.MIN_VALUE, Integer.MAX_VALUE}) due("house " + h + " for the PLACE", x.ahead(h, 11, 2), 2);
        due("of 0 HOUSES", of("valley 0 9").ahead(0, 0, 0), -1);
        due("of 0 HOUSES", of("valley 0 9").ahead(0, 100, 2), 0);
        for (int w = 0; w < 3; w++) due("without a VALLEY", new SmokeWord().ahead(0, 0, w), -1);
        sentence = "LEFT in n HOURS (0 to 100)";
        range("n", x::left, 0, 100, -1);
        int[][] left = {{0, 198}, {1, 197}, {2, 195}, {99, 9}, {100, 8}};
        for (int[] w : left) due("left(" + w[0] + ")", x.left(w[0]), w[1]);
        due("of 0 HOUSES", of("valley 0 9").left(0), 0);
        due("of 0 HOUSES", of("valley 0 9").left(100), 0);
        due("without a VALLEY", new SmokeWord().left(0), -1);
    }

    private static void out() {
        sentence = "OUT: the first HOUR, this one the first, at whose begin no HOUSE has HEAT";
        due("no fire", of("valley 0 9;house 9 0 0").out(), 0);
        due("of 0 HOUSES", of("valley 0 9").out(), 0);
        due("out in this HOUR", of("valley 0 9;house 1 1 0").out(), 1);
        due("out in the next", of("valley 0 9;house 2 1 0").out(), 2);
        SmokeWord x = hours(of("valley 0 9;house 9 0 0"), 7);
        due("no fire in HOUR 7", x.out(), 7);
        x.light(0);
        due("1, 2, 3 and 3 lost", x.out(), 11);
        // Six in a row, each lit 9 HOURS behind the one ahead, the last one kept at 1 from HOUR 46 on, with 98: the longest
        // fire that there can be is far below 200 HOURS.
        StringBuilder row = new StringBuilder("valley 1 9;house 99 1 0");
        for (int h = 1; h < 6; h++) row.append(";house 99 0 ").append(h / 5).append(";beside ").append(h - 1).append(" ").append(h);
        due("the longest", of(row + ";road 0 6 2").out(), 144);
        due("without a VALLEY", new SmokeWord().out(), -1);
        sentence = "CAN BURN: HOUSES that have HEAT, those beside them that have WORTH, those beside these, and so on";
        due("no fire", of("valley 0 9;house 9 0 0;house 9 0 0;beside 0 1").canBurn(), 0);
        due("alone", of("valley 0 9;house 9 0 0;house 9 1 0").canBurn(), 2);
        due("WORTH 0 beside", of("valley 0 9;house 9 1 0;house 0 0 0;beside 0 1").canBurn(), 1);
        due("WORTH 1 beside", of("valley 0 9;house 9 1 0;house 1 0 0;beside 0 1").canBurn(), 3);
        due("behind WORTH 0", of("valley 0 9;house 9 1 0;house 0 0 0;house 9 0 0;beside 0 1;beside 1 2").canBurn(), 1);
        due("behind WORTH 1", of("valley 0 9;house 9 1 0;house 1 0 0;house 9 0 0;beside 0 1;beside 1 2").canBurn(), 7);
        due("six in a row from the first", of(row.toString()).canBurn(), 63);
        due("six in a row from the last", of(row.toString().replaceFirst("99 1 0", "99 0 0").replace("99 0 1", "99 1 1")).canBurn(), 63);
        due("of 0 HOUSES", of("valley 0 9").canBurn(), 0);
        due("without a VALLEY", new SmokeWord().canBurn(), -1);
    }

    // ---- order

    private static void order() {
        sentence = "ORDER for n HOURS (1 to 60)";
        SmokeWord x = of(HELD);
        range("n", n -> x.order(n, -1), 1, 60, -3);
        range("n", n -> x.order(n, 0), 1, 60, -3);
        due("1 HOUR", x.order(1, -1), 59);
        due("2 HOURS", x.order(2, -1), 58);
        due("59 HOURS", x.order(59, -1), 1);
        due("60 HOURS", x.order(60, -1), 0);
        sentence = "ORDER what NONE: how much, 0 to 5: who is in that place (-2: so many there are not)";
        range("what", w -> x.order(9, w), -1, 5, -3);
        String head = "valley 0 9";
        for (int fires = 0; fires <= 6; fires++) {
            SmokeWord y = of(head + ";house 9 1 0".repeat(fires) + ";house 9 0 0".repeat(6 - fires));
            for (int w = 0; w < 6; w++) due(fires + " fires, place " + w, y.order(1, w), w < fires ? w : -2);
            due(fires + " fires, how much", y.order(1, -1), 54 - fires);
        }
        due("of 0 HOUSES", of(head).order(60, -1), 0);
        due("of 0 HOUSES", of(head).order(60, 0), -2);
        due("without a VALLEY", new SmokeWord().order(1, -1), -3);
        due("without a VALLEY", new SmokeWord().order(1, 0), -3);
        sentence = "rows of all HOUSES that have HEAT now, each once: most WORTH is left; of several the first row";
        SmokeWord near = of("valley 9 9;house 90 1 0;house 9 0 0;house 90 1 0;road 0 1 3;road 0 3 1;road 0 2 1");
        due("the nearer first", near.order(20, 0), 2);
        due("the farther second", near.order(20, 1), 0);
        due("one without HEAT is in no row", near.order(20, 2), -2);
        SmokeWord alike = of("valley 9 9;house 90 1 0;house 90 1 0;house 90 1 0;road 0 1 1;road 0 2 1;road 0 3 1");
        for (int w = 0; w < 3; w++) due("of several the first, place " + w, alike.order(20, w), w);
        for (int w = 0; w < 3; w++) due("in 1 HOUR as much by 0, 1, 2 and 0, 2, 1, place " + w, alike.order(1, w), w);
        due("in 1 HOUR, how much", alike.order(1, -1), 270 - 2);
        sentence = "ORDER: as soon as it is not on its way, and where it is has no HEAT";
        // To one by 2 HOURS, 1 lost; then to the other by 4, 1 to 5 lost.
        SmokeWord afar = of("valley 9 9;house 90 1 0;house 90 1 0;road 0 1 2;road 0 2 2");
        due("on its way it goes on", afar.order(10, -1), 180 - 1 - 15);
        // By 0, 1 it would stay with house 0, whose HEAT of 3 the WATER keeps; by 1, 0 it keeps that at 5 from HOUR 2 on.
        SmokeWord kept = of("valley 1 9;house 50 3 0;house 50 1 0;road 0 1 1;road 0 2 1");
        due("where there is HEAT it stays", kept.order(10, 0), 1);
        due("where there is HEAT it stays, how much", kept.order(10, -1), 50 + 50 - 3 - 4 - 8 * 4);
        sentence = "ORDER: is that where it is, it stays for this HOUR";
        SmokeWord there = of("valley 9 9;house 50 0 0;house 50 1 0;road 0 1 1;road 1 2 1");
        there.send(0);
        there.hour();
        there.light(0);
        // In HOUR 2 by 0, 1 it would stay, house 1 with HEAT 3 then; by 1, 0 it comes to that with 3 in HOUR 2.
        due("first", there.order(3, 0), 1);
        due("second", there.order(3, 1), 0);
        due("how much", there.order(3, -1), 50 + 49 - 2);
        due("in 1 HOUR as much by both rows", there.order(1, 0), 0);
        sentence = "ORDER: is there no way to it, to the one behind it, and so on";
        SmokeWord cut = of("valley 9 9;house 90 1 0;house 80 1 0;house 70 1 0;road 0 3 1");
        due("how much in 1 HOUR", cut.order(1, -1), 90 - 1 + 80 - 1 + 70);
        for (int w = 0; w < 3; w++) due("place " + w, cut.order(1, w), w);
        sentence = "ORDER: whether that has HEAT or not";
        // House 0 is burnt down in HOUR 0; by 0, 1 the brigade is 9 HOURS on its way to it all the same.
        SmokeWord gone = of("valley 9 9;house 1 1 0;house 90 1 0;house 9 0 0;road 0 3 1;road 3 1 9;road 3 2 1");
        gone.send(2);
        due("first", gone.order(5, 0), 1);
        due("how much", gone.order(5, -1), 98);
        sentence = "ORDER: the row is at its end: it stays";
        // House 1 is lit by house 0 in HOUR 0, and is in no row.
        SmokeWord end = of("valley 9 1;house 50 2 0;house 50 0 9;beside 0 1;road 0 1 2;road 1 2 1");
        due("how much", end.order(3, -1), 50 - 2 + 50 - 1 - 2);
        due("second", end.order(3, 1), -2);
    }

    // ---- heard, water, clear, silent

    private static void heard() {
        sentence = "HEARD: the least number that its smoke must SAY, 0 to 20";
        String one = "valley 9 9;house 99 1 4;road 0 1 1";
        due("at 0", forced(one, "go 1").heard(0), 0);
        due("at 1", forced(one, "go says").heard(0), 1);
        due("at 1 without a RULE", of(one).heard(0), 1);
        due("at 19", forced(one, "go says-18").heard(0), 19);
        due("at 20", forced(one, "go says-19").heard(0), 20);
        due("at 21: by none", forced(one, "go says-20").heard(0), -2);
        due("the least of several", forced(one, "go 1 if says=20 or says=7").heard(0), 7);
        due("less than it says now", forced(one, "go 1 if says<=3").heard(0), 0);
        sentence = "HEARD: in one of 20 HOURS from now on";
        // House 1 has HEAT in the HOURS 9 to 23.
        String late = "valley 1 9;house 99 1 0;house 99 0 0;beside 0 1;road 0 2 1";
        due("in the 19th", forced(late, "go 1 if hour>=18").heard(1), 0);
        due("in the 20th", forced(late, "go 1 if hour>=19").heard(1), 0);
        due("in the 21st", forced(late, "go 1 if hour>=20").heard(1), -2);
        due("from HOUR 2 on in the 20th", hours(forced(late, "go 1 if hour>=21"), 2).heard(1), 0);
        due("from HOUR 2 on in the 21st", hours(forced(late, "go 1 if hour>=22"), 2).heard(1), -2);
        due("in the first", hours(forced(one, "go 1 if hour=0"), 1).heard(0), -2);
        sentence = "COMES, if it is there in (3), and that has HEAT";
        due("there with no HEAT", forced("valley 9 9;house 99 0 4;road 0 1 1", "go 1").heard(0), -2);
        due("HEAT that the WATER takes whole", forced("valley 9 9;house 99 1 4;road 0 1 1", "go 1").heard(0), 0);
        due("burnt down on the HOUR of coming", forced("valley 0 9;house 1 1 4;road 0 1 1", "go 1").heard(0), 0);
        due("burnt down the HOUR ahead", forced("valley 0 9;house 1 1 4;road 0 1 2", "go 1").heard(0), -2);
        sentence = "HEARD: NONE without that HOUSE";
        range("house", h -> forced("valley 9 9;house 9 1 1;house 9 1 1;house 9 1 1", "go 0").heard(h), 0, 2, -1);
        due("of 0 HOUSES", of("valley 0 9").heard(0), -1);
        due("without a VALLEY", new SmokeWord().heard(0), -1);
    }

    private static void water() {
        sentence = "WATER for n HOURS (1 to 60)";
        SmokeWord x = of(HELD);
        range("n", x::water, 1, 60, -1);
        due("1 HOUR", x.water(1), 0);
        due("59 HOURS", x.water(59), 1);
        due("60 HOURS", x.water(60), 2);
        sentence = "WATER: the least WATER, 0 to 9";
        String one = "valley 0 9;house 30 3 1;road 0 1 1";
        due("0", forced(one, "go 1 if water>=0").water(5), 0);
        due("1", forced(one, "go 1 if water>=0").water(6), 1);
        due("8", forced(one, "go 1 if water>=8").water(60), 8);
        due("9", forced(one, "go 1 if water>=9").water(60), 9);
        due("10: by none", forced(one, "go 1 if water>=10").water(60), -2);
        sentence = "WATER: no HOUSE that has WORTH now has none behind these";
        due("WORTH 0 now", of("valley 0 9;house 0 0 0").water(60), 0);
        due("WORTH 1 now, HEAT 1", of("valley 0 9;house 1 1 0").water(1), -2);
        due("WORTH 2 now, HEAT 1", of("valley 0 9;house 2 1 0").water(1), 0);
        due("WORTH 2 now, HEAT 1", of("valley 0 9;house 2 1 0").water(2), -2);
        due("the last of six", of("valley 0 9" + ";house 9 0 0".repeat(5) + ";house 1 1 0").water(1), -2);
        due("of six none burns", of("valley 0 9" + ";house 9 0 0".repeat(6)).water(60), 0);
        due("of 0 HOUSES", of("valley 0 9").water(60), 0);
        due("without a VALLEY", new SmokeWord().water(1), -1);
    }

    private static void clear() {
        sentence = "CLEAR for n HOURS (1 to 60)";
        // House 1 burns down in 11 HOURS and is best cleared; house 0 is kept at 1.
        SmokeWord x = of("valley 1 9;house 60 2 1;house 99 9 0;road 0 1 1");
        range("n", n -> x.clear(n, 1), 1, 60, -2);
        range("n", n -> x.clear(n, 0), 1, 60, -2);
        due("59 HOURS", x.clear(59, 1), 100);
        due("60 HOURS", x.clear(60, 1), 99);
        due("60 HOURS", x.clear(60, 0), 1);
        due("1 HOUR", x.clear(1, 1), 99 + 59);
        sentence = "CLEAR what 0: which (NONE: none), 1: how much. -2 without these, or a VALLEY";
        range("what", w -> x.clear(9, w), 0, 1, -2);
        due("none", of("valley 0 9;house 9 0 0").clear(9, 0), -1);
        due("of 0 HOUSES", of("valley 0 9").clear(60, 0), -1);
        due("of 0 HOUSES", of("valley 0 9").clear(60, 1), 0);
        due("without a VALLEY", new SmokeWord().clear(1, 0), -2);
        due("without a VALLEY", new SmokeWord().clear(1, 1), -2);
        sentence = "CLEAR: of several none, then the least";
        due("as much by none", of("valley 9 9;house 9 1 1;road 0 1 1").clear(9, 0), -1);
        due("1 more by 0", of("valley 9 9;house 9 1 1").clear(1, 0), 0);
        due("0 and 1", of("valley 0 9;house 9 1 0;house 9 1 0").clear(1, 0), 0);
        due("1 more by 1", of("valley 0 9;house 9 1 0;house 9 2 0").clear(1, 0), 1);
        due("the last of six", of("valley 0 9" + ";house 9 0 0".repeat(5) + ";house 9 1 0").clear(1, 0), 5);
        sentence = "CLEAR: no WORTH, no HEAT; its WORTH is saved as it is";
        due("with its fire", of("valley 0 1;house 50 1 0;house 50 0 0;beside 0 1").clear(60, 1), 100);
        due("its smoke calls nobody", of("valley 9 9;house 50 1 9;house 50 1 1;road 0 1 9;road 0 2 1").clear(5, 1), 100);
        due("what is without WORTH is not lit", of("valley 0 3;house 20 3 0;house 60 0 0;house 70 0 0;house 20 3 0;beside 0 1;beside 1 2;"
            + "beside 3 1").clear(60, 1), 130);
    }

    private static void silent() {
        sentence = "SILENT for n HOURS (1 to 60)";
        SmokeWord x = of(HELD);
        range("n", n -> x.silent(n, 2), 1, 60, -1);
        due("1 HOUR", x.silent(1, 2), 59);
        due("59 HOURS", x.silent(59, 2), 1);
        due("60 HOURS", x.silent(60, 2), 0);
        sentence = "SILENT what 0: how many, 1: the set, 2: WORTH left. NONE without these, or a VALLEY";
        range("what", w -> x.silent(9, w), 0, 2, -1);
        for (int w = 0; w < 3; w++) due("of 0 HOUSES", of("valley 0 9").silent(60, w), 0);
        for (int w = 0; w < 3; w++) due("without a VALLEY", new SmokeWord().silent(1, w), -1);
        sentence = "SILENT: the fewest HOUSES, so that WORTH left then is most; of several sets the least as bits";
        due("none, if it is the same", of("valley 0 9;house 50 1 9;house 50 1 9").silent(9, 0), 0);
        // Who says nothing and burns is gone to: one in time of 0 and 1, both alike.
        SmokeWord two = forced("valley 9 9;house 90 1 5;house 90 1 5;road 0 1 1;road 0 2 1", "go 9 if says=0 and smoke=1");
        due("one", two.silent(2, 0), 1);
        due("the least", two.silent(2, 1), 1);
        // House 1 is nearer to the pump by an HOUR: of the sets of one the best, not the least.
        SmokeWord nearer = forced("valley 9 9;house 90 1 5;house 90 1 5;road 0 1 2;road 0 2 1", "go 9 if says=0 and smoke=1");
        due("the best", nearer.silent(2, 1), 2);
        // In 2 HOURS 5 can be saved by 0 and then 1 (3 and 2), or by 2 alone: the fewest, though not the least as bits.
        SmokeWord fewest = forced("valley 9 9;house 50 1 5;house 50 1 5;house 50 2 5;road 0 1 1;road 1 2 1;road 0 3 1",
            "go 9 if says=0 and smoke=1");
        due("the fewest", fewest.silent(2, 0), 1);
        due("the fewest, the set", fewest.silent(2, 1), 4);
        due("the fewest, WORTH", fewest.silent(2, 2), 150 - 3 - 3);
        String head = "valley 9 9", roads = "";
        for (int n = 1; n <= 6; n++) {
            head += ";house 99 1 1";
            roads += ";road " + (n - 1) + " " + n + " 1";
            SmokeWord all = forced(head + roads, "go 1+smoke if says=0");
            due("all " + n, all.silent(60, 0), n);
            due("all " + n + ", the set", all.silent(60, 1), (1 << n) - 1);
        }
    }

    // ---- pence, rests, first

    private static void pence() {
        sentence = "PENCE (0 to 9999)";
        SmokeWord x = hours(of("valley 0 9;house 99 1 0"), 1);
        range("much", m -> x.pence(m, 0), 0, 9999, -1);
        for (int much : new int[] {0, 1, 9998, 9999}) due("all to one", x.pence(much, 0), much);
        SmokeWord three = hours(of("valley 0 9;house 99 1 0;house 99 1 0;house 99 1 0"), 1);
        for (int h = 0; h < 3; h++) {
            due("-1 among three", three.pence(-1, h), -1);
            due("0 among three", three.pence(0, h), 0);
            due("10000 among three", three.pence(10000, h), -1);
        }
        sentence = "PENCE of a HOUSE; NONE without these";
        range("house", h -> of("valley 0 9;house 9 0 0;house 9 0 0;house 9 0 0").pence(5, h), 0, 2, -1);
        due("of 0 HOUSES", of("valley 0 9").pence(5, 0), -1);
        due("without a VALLEY", new SmokeWord().pence(5, 0), -1);
        sentence = "PENCE: nothing, if none is lost";
        due("none is lost", of("valley 0 9;house 99 1 0").pence(9999, 0), 0);
        due("1 is lost", x.pence(9999, 0), 9999);
        due("what was lost is undone", x.undo() == 0 ? x.pence(9999, 0) : -9, 0);
        sentence = "PENCE: each the part downwards; what is left, one each, of several the least first";
        SmokeWord six = hours(of("valley 0 9" + ";house 99 9 0".repeat(6)), 11);
        for (int h = 0; h < 6; h++) due("9999 by six alike", six.pence(9999, h), h < 3 ? 1667 : 1666);
        for (int h = 0; h < 6; h++) due("9998 by six alike", six.pence(9998, h), h < 2 ? 1667 : 1666);
        for (int h = 0; h < 6; h++) due("9996 by six alike", six.pence(9996, h), 1666);
        for (int h = 0; h < 6; h++) due("5 by six alike", six.pence(5, h), h < 5 ? 1 : 0);
        sentence = "PENCE: to those whose part lost most by that";
        // By 1, 2 and 4 of 7: 3 are 3/7, 6/7 and 1 5/7: the two left go to the second and the third.
        SmokeWord by = hours(of("valley 0 9;house 99 1 0;house 99 2 0;house 99 4 0"), 1);
        int[][] parts = {{3, 0, 1, 2}, {6, 1, 2, 3}, {7, 1, 2, 4}, {8, 1, 2, 5}, {9, 1, 3, 5}};
        for (int[] p : parts) for (int h = 0; h < 3; h++) due(p[0] + " by 1, 2, 4, of " + h, by.pence(p[0], h), p[h + 1]);
        due("one that lost nothing", hours(of("valley 0 9;house 99 0 0;house 99 1 0"), 1).pence(9999, 0), 0);
    }

    private static void rests() {
        sentence = "RESTS of two HOUSES for n HOURS (1 to 20)";
        // House 0 is lit in HOUR 8 by house 2 and could be come to in HOUR 19, with HEAT 9.
        SmokeWord x = forced("valley 9 9;house 99 0 0;house 50 0 0;house 99 1 0;beside 0 2;road 0 1 1", "go says if hour>=19");
        range("n", n -> x.rests(0, 1, n, 0), 1, 20, -1);
        due("19 HOURS: silence is best", x.rests(0, 1, 19, 1), 0);
        due("20 HOURS: it is best to say 5", x.rests(0, 1, 20, 1), 5);
        due("1 HOUR", x.rests(0, 1, 1, 1), 0);
        sentence = "RESTS what 0 to 2; NONE without these (unlike)";
        range("what", w -> x.rests(0, 1, 9, w), 0, 2, -1);
        range("one", h -> x.rests(h, 2, 9, 0), 0, 1, -1);
        range("other", h -> x.rests(2, h, 9, 0), 0, 1, -1 );
        for (int h = 0; h < 3; h++) due("alike", x.rests(h, h, 9, 0), -1);
        due("alike, beyond", x.rests(3, 3, 9, 0), -1);
        due("of 1 HOUSE", of("valley 0 9;house 9 0 0").rests(0, 1, 9, 0), -1);
        due("without a VALLEY", new SmokeWord().rests(0, 1, 9, 0), -1);
        sentence = "RESTS: the smoke of each SAYS 0, 5, 10, 15 or 20";
        String one = "valley 9 9;house 90 1 3;house 90 0 3;road 0 1 1";
        int[][] least = {{0, 5}, {4, 5}, {5, 10}, {9, 10}, {10, 15}, {14, 15}, {15, 20}, {19, 20}, {20, 0}};
        for (int[] l : least) {
            SmokeWord y = forced(one, "go says-" + l[0]);
            due("above " + l[0], y.rests(0, 1, 10, 1), l[1]);
            due("above " + l[0] + ", the second", y.rests(0, 1, 10, 2), 0);
            due("above " + l[0] + ", the other way round", y.rests(1, 0, 10, 2), l[1]);
        }
        sentence = "RESTS: its WORTH then, less a fifth of what it SAYS; neither would have more by another one";
        // To say 20 costs 4. Uncalled it loses 1, 3 and 6 in 1, 2 and 3 HOURS.
        SmokeWord dear = forced(one, "go says-19");
        due("it would win 1 - 4", dear.rests(0, 1, 1, 1), 0);
        due("it would win 3 - 4", dear.rests(0, 1, 2, 1), 0);
        due("it wins 6 - 4", dear.rests(0, 1, 3, 1), 20);
        // To say 15 costs 3: with 3 to win both are rests.
        SmokeWord even = forced(one, "go 1 if says=15");
        due("as much by both", even.rests(0, 1, 2, 0), 2);
        due("the first", even.rests(0, 1, 2, 1), 0);
        // Each is saved 1 by 5, which costs 1, if the other says less; of two alike the first is gone to.
        SmokeWord both = of("valley 9 9;house 90 1 0;house 90 1 0;road 0 1 1;road 0 2 1");
        due("0 0, 0 5 and 5 0", both.rests(0, 1, 1, 0), 3);
        String contest = "valley 4 5;house 60 2 7;house 50 1 12;house 40 3 9;road 0 1 2;road 1 2 1;road 0 3 1;road 2 3 3;beside 0 1";
        for (int n : new int[] {1, 2, 4, 7, 12, 19, 20}) {
            due("how many in " + n, of(contest).rests(0, 1, n, 0), restsByHand(of(contest), 0, 1, n));
            due("how many in " + n, of(contest).rests(2, 1, n, 0), restsByHand(of(contest), 2, 1, n));
            due("how many in " + n, of(contest).rests(2, 0, n, 0), restsByHand(of(contest), 2, 0, n));
        }
        SmokeWord shy = of("valley 9 9;house 90 1 0;house 1 1 0;road 0 1 2;road 0 2 2");
        due("who has 1 to lose keeps still", shy.rests(0, 1, 10, 0), 1);
        due("and the other says 5", shy.rests(0, 1, 10, 1), 5);
        due("the other way round", shy.rests(1, 0, 10, 2), 5);
        sentence = "RESTS: the first (-2: there is none)";
        SmokeWord none = of("valley 9 9;house 90 1 0;house 90 1 0;road 0 1 9;road 0 2 9");
        due("how many", none.rests(0, 1, 10, 0), 0);
        due("the first one", none.rests(0, 1, 10, 1), -2);
        due("the second one", none.rests(0, 1, 10, 2), -2);
    }

    private static void first() {
        sentence = "FIRST: in 60 HOURS from now on";
        StringBuilder row = new StringBuilder("valley 1 9;house 99 1 0");
        for (int h = 1; h < 6; h++) row.append(";house 99 0 0;beside ").append(h - 1).append(" ").append(h);
        row.append(";road 0 6 1");
        // No fire that nobody comes to lasts longer than these 60, so that a 61st HOUR is never asked for.
        due("in the 59th", forced(row.toString(), "go 1 if hour>=58").first(1), 58);
        due("in the 60th", forced(row.toString(), "go 1 if hour>=59").first(1), 59);
        due("in the 60th, the HOUSE", forced(row.toString(), "go 1 if hour>=59").first(0), 5);
        due("in the 61st", forced(row.toString(), "go 1 if hour>=60").first(1), -2);
        due("in the first", of("valley 1 9;house 9 1 1;road 0 1 1").first(1), 0);
        due("in the second", of("valley 1 9;house 9 1 1;road 0 1 2").first(1), 1);
        due("in this one, HOUR 3", hours(forced("valley 1 9;house 90 1 1;road 0 1 1", "go 1 if hour>=3"), 3).first(1), 3);
        sentence = "FIRST what 0: the HOUSE, 1: the HOUR; -2: to none. NONE for others, or without a VALLEY";
        SmokeWord x = of("valley 1 9;house 9 0 1;house 9 1 1;road 0 2 1");
        for (int w : new int[] {-1, 2, Integer.MIN_VALUE, Integer.MAX_VALUE}) due("what " + w, x.first(w), -1);
        due("the HOUSE", x.first(0), 1);
        due("the HOUR", x.first(1), 0);
        SmokeWord none = of("valley 1 9;house 9 0 1;road 0 1 1");
        due("to none", none.first(0), -2);
        due("to none", none.first(1), -2);
        due("what 2 of none", none.first(2), -1);
        due("of 0 HOUSES", of("valley 0 9").first(0), -2);
        due("without a VALLEY", new SmokeWord().first(0), -1);
        due("without a VALLEY", new SmokeWord().first(1), -1);
    }

    // ---- NOTES

    private static void notes() {
        sentence = "NOTES 0 to 9; -2 if there are 10";
        SmokeWord x = of(TWO);
        for (int i = 1; i <= 10; i++) due("the " + i + "th", x.note(0, 0), i);
        due("the 11th", x.note(0, 0), -2);
        due("count(12)", x.count(12), 10);
        due("n NONE: there are none then", x.note(-1, 0), 0);
        due("count(12)", x.count(12), 0);
        due("n NONE again", x.note(-1, 0), 0);
        due("the first again", x.note(0, 0), 1);
        sentence = "the n-th HOUR of all (0 to 60)";
        range("n", n -> n == -1 ? -2 : of(TWO).note(n, 0), 0, 60, -2);
        due("-2", of(TWO).note(-2, 0), -2);
        sentence = "a PLACE (0 to HOUSES)";
        range("place", p -> of(TWO).note(0, p), 0, 2, -2);
        due("of 0 HOUSES", of("valley 0 9").note(0, 0), 1);
        due("of 0 HOUSES", of("valley 0 9").note(0, 1), -2);
        due("without a VALLEY", new SmokeWord().note(0, 0), -2);
        due("all without a VALLEY", new SmokeWord().note(-1, 0), -2);
        sentence = "all NOTES are so";
        SmokeWord ten = of(TWO);
        for (int i = 0; i < 10; i++) ten.note(0, i < 9 ? 0 : 2);
        due("the 10th is not", ten.ruled(0), 0);
        ten.note(-1, 0);
        due("none is left", ten.ruled(0), 1);
        for (int i = 0; i < 10; i++) ten.note(0, i > 0 ? 0 : 1);
        due("the first is not", ten.ruled(0), 0);
        ten.note(-1, 0);
        for (int i = 0; i < 10; i++) ten.note(0, 0);
        due("all ten are", ten.ruled(0), 1);
        ten.image(0);
        ten.note(-1, 0);
        ten.note(0, 2);
        due("another is not", ten.ruled(0), 0);
        ten.image(1);
        ten.back(0);
        due("an IMAGE has its own", ten.ruled(0), 1);
        ten.back(1);
        due("an IMAGE has its own", ten.ruled(0), 0);
        SmokeWord own = of(STILL, "go 1 if hour>=5");
        own.force(0);
        own.note(5, 1);
        own.image(0);
        own.note(-1, 0);
        own.note(6, 1);
        due("there at the begin of HOUR 6", own.ruled(0), 1);
        own.image(1);
        own.back(0);
        due("not at the begin of HOUR 5", own.ruled(0), 0);
        own.back(1);
        due("there at the begin of HOUR 6", own.ruled(0), 1);
        sentence = "from the begin on, all as the text told it";
        SmokeWord begin = of("valley 1 9;house 9 1 0;house 9 0 0;road 0 1 1", "go 1 if been=0 and lost=0 and hour=0 and says=0 and worth=9;go 0");
        begin.say(0, 9);
        hours(begin, 3);
        begin.light(1);
        begin.note(1, 1);
        due("by the RULE it is at house 0 at the begin of HOUR 1", begin.ruled(1), 0);
        due("by none it is not", begin.ruled(0), 1);
        due("WORTH of now", begin.count(10), 18 - begin.count(11));
        sentence = "at the begin of the n-th HOUR the brigade was at a PLACE";
        String[] rules = {"go 1 if hour>=58", "go 1 if hour>=59", "go 1 if hour>=60"};
        int[][] holds = {{0, 3, 3, 3}, {58, 3, 3, 3}, {59, 2, 3, 3}, {60, 2, 2, 3}};
        for (int[] n : holds) for (int rule = 0; rule < 3; rule++) {
            SmokeWord y = of(STILL, rules[rule]);
            y.note(n[0], 0);
            due("at the pump in HOUR " + n[0] + " by \"" + rules[rule] + "\"", y.ruled(0), n[rule + 1] - 1);
        }
    }

    private static void ruled() {
        sentence = "RULED: which of the RULES, and of none: how many";
        SmokeWord x = new SmokeWord();
        valley(x, TWO);
        for (int n = 0; n <= 6; n++) {
            due("of " + n + " RULES and none", x.ruled(0), n + 1);
            rule(x, "go 1");
        }
        sentence = "RULED: the first (none ahead of 0, told as NONE; -2: there is none such)";
        SmokeWord y = of(TWO, "go house", "go 5-house", "go 0", "go house", "go 0", "go house");
        due("none", y.ruled(1), -1);
        y.note(60, 2);
        due("how many go to house 1", y.ruled(0), 3 + ruledByNone(60, 2));
        y.note(2, 2);
        due("RULES 0, 3 and 5", y.ruled(0), 3);
        due("RULE 0", y.ruled(1), 0);
        y.note(3, 0);
        due("none such", y.ruled(0), 0);
        due("none such", y.ruled(1), -2);
        SmokeWord last = of(STILL, "go 0", "go 0", "go 0", "go 0", "go 0", "go 1");
        last.note(1, 1);
        due("RULE 5", last.ruled(1), 5);
        due("RULE 5 alone", last.ruled(0), 1);
        sentence = "RULED what 0, 1; -3 for others, or without a VALLEY";
        for (int w : new int[] {-1, 2, Integer.MIN_VALUE, Integer.MAX_VALUE}) due("what " + w, y.ruled(w), -3);
        due("without a VALLEY", new SmokeWord().ruled(0), -3);
        due("without a VALLEY", new SmokeWord().ruled(1), -3);
        due("of 0 HOUSES", of("valley 0 9").ruled(0), 1);
    }
    private static int ruledByNone(int n, int place) {
        SmokeWord x = of(TWO);
        return x.ahead(0, n, 2) == place ? 1 : 0;
    }

    private static void look() {
        sentence = "LOOK: the HOUR (0 to 60)";
        due("59", of(STILL, "go 1 if hour>=58").look(0), 59);
        due("60", of(STILL, "go 1 if hour>=59").look(0), 60);
        due("60, how many", of(STILL, "go 1 if hour>=59").look(1), 1);
        due("61 is too late", of(STILL, "go 1 if hour>=60").look(0), 0);
        due("61 is too late, how many", of(STILL, "go 1 if hour>=60").look(1), 2);
        due("1", of(STILL, "go 1").look(0), 1);
        sentence = "LOOK: the most alike are fewest, of several the least; how many";
        due("none alone", of(STILL).look(0), 0);
        due("none alone, how many", of(STILL).look(1), 1);
        // In HOUR 1 one parts, in HOUR 5 another: 4, then 3 and 1, then 2 and 2.
        SmokeWord x = of(STILL, "go 0", "go 1", "go 1 if hour>=4");
        due("hour", x.look(0), 5);
        due("how many", x.look(1), 2);
        SmokeWord alike = of(STILL, "go 1", "go 1", "go 1", "go 1", "go 1", "go 1");
        due("6 of 7", alike.look(1), 6);
        due("6 of 7, the HOUR", alike.look(0), 1);
        SmokeWord all = of(STILL, "go 0", "go 0", "go 0", "go 0", "go 0", "go 0");
        due("7 of 7", all.look(1), 7);
        due("7 of 7, the HOUR", all.look(0), 0);
        // At the begin of HOUR 2 none and RULE 1 are at house 0, which none leaves for house 1: there in HOUR 6.
        SmokeWord two = of(TWO, "go house", "go 5-house", "go 0");
        due("of four, the HOUR", two.look(0), 2);
        due("of four", two.look(1), 2);
        two.note(2, 1);
        due("of these two, the HOUR", two.look(0), 6);
        due("of these two", two.look(1), 1);
        two.note(6, 1);
        due("of the one, the HOUR", two.look(0), 0);
        due("of the one", two.look(1), 1);
        two.note(-1, 0);
        due("of four again, the HOUR", two.look(0), 2);
        sentence = "LOOK: -2: no RULE is so. NONE for others, or without a VALLEY";
        x.note(0, 1);
        due("no RULE is so", x.look(0), -2);
        due("no RULE is so", x.look(1), -2);
        for (int w : new int[] {-1, 2, Integer.MIN_VALUE, Integer.MAX_VALUE}) due("what " + w, x.look(w), -1);
        due("without a VALLEY", new SmokeWord().look(0), -1);
        due("without a VALLEY", new SmokeWord().look(1), -1);
    }

    // ---- DRAWS, IMAGES, count

    private static int sparked(int seed, int m, int n, int p, int what) {
        SmokeWord x = of("valley 0 9;house 50 0 0;house 60 0 0;house 70 0 0");
        x.seed(seed);
        int answer = x.sparks(m, n, p, what);
        due("x as it was", x.count(14), seed);
        return answer;
    }

    private static void draws() {
        sentence = "x (0 to 2147483647; 0 at first)";
        SmokeWord x = new SmokeWord();
        due("at first", x.count(14), 0);
        due("1", x.seed(1), 0);
        due("-1", x.seed(-1), -1);
        due("MIN", x.seed(Integer.MIN_VALUE), -1);
        due("2147483646", x.seed(2147483646), 1);
        due("2147483647", x.seed(2147483647), 2147483646);
        due("0", x.seed(0), 2147483647);
        due("count(14)", x.count(14), 0);
        sentence = "SPARKS m times (1 to 10)";
        SmokeWord held = of(HELD);
        range("m", m -> held.sparks(m, 59, 0, 0), 1, 10, -1);
        for (int m : new int[] {1, 2, 9, 10}) due("1 left " + m + " times", held.sparks(m, 59, 0, 0), m);
        for (int m : new int[] {1, 2, 9, 10}) due("1 fire " + m + " times", held.sparks(m, 59, 0, 1), m);
        sentence = "SPARKS n HOURS (1 to 60)";
        range("n", n -> held.sparks(1, n, 0, 0), 1, 60, -1);
        due("1 HOUR", held.sparks(1, 1, 0, 0), 59);
        due("59 HOURS", held.sparks(1, 59, 0, 0), 1);
        due("60 HOURS", held.sparks(1, 60, 0, 0), 0);
        due("60 HOURS, fires", held.sparks(1, 60, 0, 1), 0);
        sentence = "a DRAW mod 100: is it below p (0 to 100)";
        range("p", p -> held.sparks(1, 9, p, 0), 0, 100, -1);
        // Of these x the first DRAW mod 100 is 0, 1, 49, 50, 98, 99.
        // Of the others x becomes, at the bounds of x / 65536: 50 * 65536 less 1, that, 32750 * 65536 less 1, that, 32700 * 65536
        // less 1, that, 0 and 2147483647.
        int[][] seeds = {{0, 0}, {70, 1}, {58, 49}, {27, 50}, {15, 98}, {194, 99}, {125287198, 49}, {1982965379, 50}, {10730270, 49},
            {1868408451, 50}, {115981086, 99}, {1973659267, 0}, {2088216195, 0}, {230538014, 67}};
        for (int[] s : seeds) {
            due("DRAW " + s[1] + ", p " + s[1], sparked(s[0], 1, 1, s[1], 0), 180);
            due("DRAW " + s[1] + ", p " + (s[1] + 1), sparked(s[0], 1, 1, s[1] + 1, 0), 179);
            due("DRAW " + s[1] + ", p 0", sparked(s[0], 1, 1, 0, 1), 0);
            due("DRAW " + s[1] + ", p 100", sparked(s[0], 1, 1, 100, 1), 1);
        }
        sentence = "SPARKS what 0: WORTH, 1: how many. NONE without these, or a VALLEY";
        for (int w : new int[] {-1, 2, Integer.MIN_VALUE, Integer.MAX_VALUE}) due("what " + w, held.sparks(1, 1, 0, w), -1);
        due("without a VALLEY", new SmokeWord().sparks(1, 1, 0, 0), -1);
        due("are there no HOUSES, nothing", of("valley 0 9").sparks(10, 60, 100, 0), 0);
        due("are there no HOUSES, nothing", of("valley 0 9").sparks(10, 60, 100, 1), 0);
    }

    private static void drawn() {
        sentence = "x becomes x * 1103515245 + 12345, of 2147483648 the rest; a DRAW is x / 65536; a DRAW mod how many: that one";
        // The second DRAW: of x 0: 21468; 1: 5758; 2147483646: 20118; 2147483647: 4409.
        int[][] second = {{0, 21468}, {1, 5758}, {2147483646, 20118}, {2147483647, 4409}};
        for (int[] s : second) for (int houses = 1; houses <= 6; houses++) for (int lit = 0; lit < houses; lit++) {
            // The only one that has WORTH loses 1, if it is drawn.
            StringBuilder text = new StringBuilder("valley 0 9");
            for (int h = 0; h < houses; h++) text.append(h == lit ? ";house 9 0 0" : ";house 0 0 0");
            SmokeWord x = of(text.toString());
            x.seed(s[0]);
            due("x " + s[0] + ", " + houses + " HOUSES, " + lit, x.sparks(1, 1, 100, 0), s[1] % houses == lit ? 8 : 9);
        }
        sentence = "that one, if it has WORTH and no HEAT, has HEAT 1";
        due("HEAT 0", of("valley 0 9;house 9 0 0").sparks(1, 1, 100, 0), 8);
        due("HEAT 1", of("valley 0 9;house 9 1 0").sparks(1, 1, 100, 0), 8);
        due("HEAT 5", of("valley 0 9;house 9 5 0").sparks(1, 1, 100, 0), 4);
        due("WORTH 0", of("valley 0 9;house 0 0 0").sparks(1, 1, 100, 1), 0);
        due("WORTH 1, all lost", of("valley 0 9;house 1 0 0").sparks(1, 1, 100, 1), 0);
        due("WORTH 2", of("valley 0 9;house 2 0 0").sparks(1, 1, 100, 1), 1);
        sentence = "SPARKS: ahead of each HOUR; all together";
        due("lit in the first of 2 HOURS", of("valley 0 9;house 9 0 0").sparks(1, 2, 100, 0), 6);
        due("twice 1 HOUR", of("valley 0 9;house 9 0 0").sparks(2, 1, 100, 0), 16);
        due("ten times 1 HOUR", of("valley 0 9;house 9 0 0").sparks(10, 1, 100, 0), 80);
        due("ten times 1 HOUR, fires", of("valley 0 9;house 9 0 0").sparks(10, 1, 100, 1), 10);
    }

    private static void images() {
        sentence = "IMAGES 0 to 3";
        SmokeWord x = hours(of(HELD), 2);
        range("image", x::image, 0, 3, -1);
        range("back", x::back, 0, 3, -1);
        for (int k = 0; k <= 3; k++) {
            x.image(k);
            x.hour();
        }
        for (int k = 3; k >= 0; k--) due("back(" + k + ")", x.back(k), 2 + k);
        sentence = "back: NONE, and nothing happens, if it was never made";
        for (int k = 0; k <= 3; k++) {
            SmokeWord y = of(HELD);
            for (int other = 0; other <= 3; other++) if (other != k) y.image(other);
            due("back(" + k + ")", y.back(k), -1);
            due("back to another", y.back((k + 1) % 4), 0);
        }
        sentence = "IMAGES: all but the TAPE and the RULES, as it is (the RULE IN FORCE, too); nothing can be UNDONE then";
        SmokeWord z = of(HELD, "go 1");
        z.image(0);
        rule(z, "go 2");
        z.force(1);
        z.seed(5);
        z.note(1, 1);
        z.say(0, 9);
        z.hour();
        z.feed(0, 0, 0, 0, 0);
        due("20 bytes", z.count(15), 20);
        due("HOUR", z.image(1), 1);
        due("ACTS stay", z.count(13), 2);
        due("HOUR", z.back(0), 0);
        int[] all = {1, 9, 1, 2, -1, 0, 0, -1, 0, 1, 60, 0, 0, 0, 0, 20};
        for (int w = 0; w < 16; w++) due("count(" + w + ")", z.count(w), all[w]);
        due("SAYS", z.house(0, 2), 1);
        due("nothing can be UNDONE", z.undo(), -1);
        due("HOUR", z.back(1), 1);
        int[] then = {1, 9, 1, 2, 1, 1, 1, -1, 0, 1, 59, 1, 1, 0, 5, 20};
        for (int w = 0; w < 16; w++) due("count(" + w + ")", z.count(w), then[w]);
        due("SAYS", z.house(0, 2), 9);
        due("been", z.house(0, 4), 1);
        due("another VALLEY", valley(z, "valley 0 1"), 0);
        due("IMAGES stay", z.back(1), 1);
        due("its HOUSES", z.count(2), 1);
    }

    private static void count() {
        sentence = "count: what 0 to 15; NONE for others";
        SmokeWord x = forced("valley 9 9;house 99 9 9;house 99 9 9;road 0 1 9;road 0 2 9", "go 1");
        x.seed(7);
        x.hour();
        x.note(1, 1);
        x.feed(0, 0, 0, 0, 0);
        int[] all = {9, 9, 2, 1, 0, 1, 0, 1, 8, 3, 180, 18, 1, 1, 7, 20};
        for (int w = 0; w < 16; w++) due("count(" + w + ")", x.count(w), all[w]);
        for (int w : new int[] {-1, 16, -2, 17, Integer.MIN_VALUE, Integer.MAX_VALUE}) due("count(" + w + ")", x.count(w), -1);
        SmokeWord none = new SmokeWord();
        for (int w = 0; w < 16; w++) due("of a new object count(" + w + ")", none.count(w), w == 4 || w == 7 ? -1 : 0);
        sentence = "count 7: NONE: it is not; 8: 0: it is not on its way";
        SmokeWord way = of("valley 0 9;house 9 0 0;road 0 1 2");
        due("count(7)", way.count(7), -1);
        due("count(8)", way.count(8), 0);
        way.send(0);
        due("count(7)", way.count(7), 1);
        due("count(8)", way.count(8), 2);
        due("count(6)", way.count(6), 0);
        way.hour();
        due("count(8)", way.count(8), 1);
        way.hour();
        due("count(7)", way.count(7), -1);
        due("count(8)", way.count(8), 0);
        due("count(6)", way.count(6), 1);
    }

    private static void force() {
        sentence = "force: which was; -2 if there is none such";
        SmokeWord x = new SmokeWord();
        due("NONE of none", x.force(-1), -1);
        due("0 of none", x.force(0), -2);
        for (int n = 0; n < 6; n++) {
            rule(x, "go 1");
            due("the last", x.force(n), n - 1);
            due("the one behind it", x.force(n + 1), -2);
            due("it stays", x.count(4), n);
        }
        due("-2", x.force(-2), -2);
        due("MIN", x.force(Integer.MIN_VALUE), -2);
        due("MAX", x.force(Integer.MAX_VALUE), -2);
        due("0", x.force(0), 5);
        due("NONE", x.force(-1), 0);
        due("NONE again", x.force(-1), -1);
    }

    private static void tape() {
        sentence = "feed: Twenty bytes come behind the TAPE; NONE if it would have more than 400";
        for (int had = 379; had <= 381; had++) {
            SmokeWord x = new SmokeWord();
            for (int i = 0; i < 20; i++) x.feed(0, 0, 0, 0, 0);
            due("400", x.count(15), 400);
            x.end(had);
            due("behind " + had, x.feed(0, 0, 0, 0, 0), had <= 380 ? had + 20 : -1);
            due("count(15)", x.count(15), had <= 380 ? had + 20 : had);
        }
        sentence = "feed: of each number the highest first";
        SmokeWord y = new SmokeWord();
        due("20", y.feed(0x76616c6c, 0x65792030, 0x20313b68, 0x6f757365, 0x20392038), 20);
        due("40", y.feed(0x2037ff80, 0xffffffff, 0x80000000, 0x7fffffff, 0), 40);
        due("22", y.end(22), 22);
        due("valley 0 1;house 9 8 7", y.valley(), 1);
        for (int w = 0; w < 3; w++) due("house(0, " + w + ")", y.house(0, w), 9 - w);
        sentence = "end: NONE if it has not so many, or n is below 0";
        SmokeWord z = new SmokeWord();
        due("end(0) of none", z.end(0), 0);
        due("end(1) of none", z.end(1), -1);
        z.feed(0, 0, 0, 0, 0);
        for (int n : new int[] {-1, 21, Integer.MIN_VALUE, Integer.MAX_VALUE}) due("end(" + n + ") of 20", z.end(n), -1);
        for (int n : new int[] {20, 19, 1, 0}) {
            due("end(" + n + ")", z.end(n), n);
            due("count(15)", z.count(15), n);
            due("end(" + (n + 1) + ")", z.end(n + 1), -1);
        }
        due("end(-1) of none", z.end(-1), -1);
    }

    public static void main(String[] args) {
        told(); ahead(); out(); order(); heard(); water(); clear(); silent(); pence(); rests(); first();
        notes(); ruled(); look(); draws(); drawn(); images(); count(); force(); tape();
        finish();
    }
}
