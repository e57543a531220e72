import java.util.function.Supplier;
import java.util.function.ToIntFunction;

/** What is refused, and what is asked, changes nothing: an object that was called so goes on as its twin that was not. */
public final class RefusedTest extends Told {
    private static final String SMALL =
        "valley 3 4;house 40 2 5;house 30 0 3;house 20 3 9;road 0 1 2;road 1 2 1;road 0 3 3;beside 0 1";
    private static final int[] WILD = {Integer.MIN_VALUE, Integer.MAX_VALUE};

    // ---- objects to be called

    private static SmokeWord fresh() { return new SmokeWord(); }

    /** With all that an object can have: a VALLEY, RULES, NOTES, ACTS, x, IMAGES, and a TAPE that is a VALLEY. */
    private static SmokeWord rich() {
        SmokeWord x = of(SMALL, "go worth", "go says if smoke = 1; go 0");
        x.image(2);
        x.force(1);
        x.seed(77);
        x.note(3, 3);
        x.hour();
        x.light(1);
        x.image(0);
        x.say(1, 20);
        x.hour();
        x.note(4, 3);
        put(x, "valley 2 2;house 7 1 1");
        return x;
    }

    /** As rich, the brigade being at a house and not on its way. */
    private static SmokeWord there() {
        SmokeWord x = rich();
        hours(x, 1);
        return x;
    }

    private static SmokeWord sixRules() {
        SmokeWord x = rich();
        for (int i = 2; i < 6; i++) rule(x, "go " + i);
        put(x, "go 1 if worth = 9");
        return x;
    }

    private static SmokeWord tenNotes() {
        SmokeWord x = rich();
        for (int i = 2; i < 10; i++) x.note(i, 0);
        return x;
    }

    private static SmokeWord withTape(String text) {
        SmokeWord x = rich();
        put(x, text);
        return x;
    }

    private static SmokeWord full() { return withTape("valley 1 1;house 5 1 1" + " ".repeat(378)); }

    // ---- all that can be seen of one

    private static void stand(SmokeWord x, StringBuilder seen) {
        for (int w = 0; w < 16; w++) seen.append(x.count(w)).append(' ');
        for (int h = 0; h < x.count(2); h++) for (int w = 0; w < 5; w++) seen.append(x.house(h, w)).append(' ');
        for (int from = 0; from <= x.count(2); from++) for (int to = 0; to < from; to++) seen.append(x.far(from, to)).append(' ');
        seen.append(x.left(9)).append(' ').append(x.first(1)).append(' ').append(x.sparks(2, 5, 50, 0)).append(' ');
        seen.append(x.ruled(0)).append(' ').append(x.ruled(1)).append(' ').append(x.look(0)).append(" | ");
    }

    /** Nothing is as it was behind this: all ACTS are UNDONE, all IMAGES gone back to, the TAPE is read. */
    private static String all(SmokeWord x) {
        StringBuilder seen = new StringBuilder();
        stand(x, seen);
        for (int more = x.undo(); more >= 0; more = x.undo())
            seen.append(more).append(' ').append(x.count(5)).append(' ').append(x.count(7)).append(' ').append(x.count(9)).append(' ')
                .append(x.count(10)).append(' ').append(x.house(1, 2)).append("; ");
        for (int k = 0; k < 4; k++) {
            seen.append(x.back(k)).append(": ");
            if (k == 0 || k == 2) stand(x, seen);
        }
        seen.append(x.rule()).append(' ').append(x.count(15)).append(' ').append(x.valley()).append(' ');
        stand(x, seen);
        return seen.toString();
    }

    private static void still(String call, Supplier<SmokeWord> make, ToIntFunction<SmokeWord> asked, int want) {
        SmokeWord x = make.get();
        due("refused", call, asked.applyAsInt(x), want);
        same("nothing happens", call, all(x), all(make.get()));
    }

    private static void asked(String call, ToIntFunction<SmokeWord> asked) {
        SmokeWord x = rich();
        int first = asked.applyAsInt(x);
        due("asked again", call, asked.applyAsInt(x), first);
        same("by what is asked nothing changes", call, all(x), all(rich()));
    }

    // ---- the calls that change, refused

    private static void tape() {
        still("feed to 420", RefusedTest::full, x -> x.feed(1, 2, 3, 4, 5), -1);
        still("feed to 401", () -> { SmokeWord x = full(); x.end(381); return x; }, x -> x.feed(1, 2, 3, 4, 5), -1);
        still("end(-1)", RefusedTest::rich, x -> x.end(-1), -1);
        still("end(23) of 22", RefusedTest::rich, x -> x.end(23), -1);
        still("end(401)", RefusedTest::full, x -> x.end(401), -1);
        still("end(1) of none", RefusedTest::fresh, x -> x.end(1), -1);
        for (int n : WILD) still("end(" + n + ")", RefusedTest::rich, x -> x.end(n), -1);
        still("end(22) of 22 is no change", RefusedTest::rich, x -> x.end(22), 22);
    }

    private static void texts() {
        String six = "valley 0 1" + ";house 1 0 0".repeat(6);
        String[] valleys = {"", "valley 0 1;house 9 9 9;x", "valley 5 5;house 1 2 3;house 100 0 0", "valley 1 1;house 1 1 1;valley 1 1",
            six + ";house 1 0 0", "house 1 1 1", "valley 1 1;house 1 1 1;"};
        int[] faults = {fault(0, 0), fault(23, 0), fault(29, 1), fault(23, 4), fault(83, 4), fault(0, 4), fault(23, 0)};
        for (int i = 0; i < valleys.length; i++) {
            String text = valleys[i];
            still("valley of \"" + text + "\"", () -> withTape(text), SmokeWord::valley, faults[i]);
        }
        still("valley of a new object", RefusedTest::fresh, SmokeWord::valley, fault(0, 0));
        String[] rules = {"", "go", "go 123456", "go 1 if " + "[".repeat(11), "go 1" + "+1".repeat(60), "go 1" + ";go 1".repeat(12), "go 1;go 2;x"};
        int[] told = {fault(0, 0), fault(2, 0), fault(3, 1), fault(18, 2), fault(123, 3), fault(60, 4), fault(10, 0)};
        for (int i = 0; i < rules.length; i++) {
            String text = rules[i];
            still("rule of \"" + text + "\"", () -> withTape(text), SmokeWord::rule, told[i]);
        }
        still("rule of a new object", RefusedTest::fresh, SmokeWord::rule, fault(0, 0));
        still("a seventh rule", RefusedTest::sixRules, SmokeWord::rule, -1);
        for (int rule : new int[] {-2, 2, 6, WILD[0], WILD[1]}) still("force(" + rule + ")", RefusedTest::rich, x -> x.force(rule), -2);
        still("force(6) of six", RefusedTest::sixRules, x -> x.force(6), -2);
        still("force(0) of none", RefusedTest::fresh, x -> x.force(0), -2);
        still("force of the one in force", RefusedTest::rich, x -> x.force(1), 1);
        still("force(NONE) of none", RefusedTest::fresh, x -> x.force(-1), -1);
    }

    private static void acts() {
        still("hour without a VALLEY", RefusedTest::fresh, SmokeWord::hour, -1);
        for (int h : new int[] {-1, 3, 6, WILD[0], WILD[1]}) {
            still("light(" + h + ")", RefusedTest::rich, x -> x.light(h), -1);
            still("douse(" + h + ")", RefusedTest::rich, x -> x.douse(h), -1);
            still("say(" + h + ", 5)", RefusedTest::rich, x -> x.say(h, 5), -1);
            still("send(" + h + ")", RefusedTest::there, x -> x.send(h), -1);
        }
        for (int h : new int[] {-1, 0, 5}) {
            still("light(" + h + ") without a VALLEY", RefusedTest::fresh, x -> x.light(h), -1);
            still("douse(" + h + ") without a VALLEY", RefusedTest::fresh, x -> x.douse(h), -1);
            still("say(" + h + ", 5) without a VALLEY", RefusedTest::fresh, x -> x.say(h, 5), -1);
            still("send(" + h + ") without a VALLEY", RefusedTest::fresh, x -> x.send(h), -1);
        }
        still("light of one that burns", RefusedTest::rich, x -> x.light(0), -1);
        still("light of one without WORTH", () -> of("valley 1 1;house 0 0 0"), x -> x.light(0), -1);
        still("douse of one without HEAT", () -> of("valley 1 1;house 1 0 0"), x -> x.douse(0), -1);
        for (int much : new int[] {-1, 21, WILD[0], WILD[1]}) still("say(0, " + much + ")", RefusedTest::rich, x -> x.say(0, much), -1);
        still("say the same", RefusedTest::rich, x -> x.say(1, 20), -1);
        still("send on its way", RefusedTest::rich, x -> x.send(0), -1);
        still("send on its way thither", RefusedTest::rich, x -> x.send(2), -1);
        still("send where it is", RefusedTest::there, x -> x.send(2), -1);
        still("send without a way", () -> of("valley 1 1;house 1 0 0"), x -> x.send(0), -1);
        still("undo of a new object", RefusedTest::fresh, SmokeWord::undo, -1);
        still("undo of a new VALLEY", () -> of(SMALL), SmokeWord::undo, -1);
        still("undo gone back", () -> { SmokeWord x = rich(); x.back(0); return x; }, SmokeWord::undo, -1);
        SmokeWord sent = there();
        due("ahead of it", "where the brigade is", sent.count(6), 3);
        due("ahead of it", "it is not on its way", sent.count(7), -1);
        due("ahead of it", "whither it is on its way", rich().count(7), 3);
    }

    private static void others() {
        for (int n : new int[] {-2, 61, WILD[0], WILD[1]}) still("note(" + n + ", 0)", RefusedTest::rich, x -> x.note(n, 0), -2);
        for (int p : new int[] {-1, 4, WILD[0], WILD[1]}) still("note(0, " + p + ")", RefusedTest::rich, x -> x.note(0, p), -2);
        still("an 11th note", RefusedTest::tenNotes, x -> x.note(0, 0), -2);
        still("note without a VALLEY", RefusedTest::fresh, x -> x.note(0, 0), -2);
        still("note(NONE, 0) without a VALLEY", RefusedTest::fresh, x -> x.note(-1, 0), -2);
        for (int s : new int[] {-1, -2, WILD[0]}) still("seed(" + s + ")", RefusedTest::rich, x -> x.seed(s), -1);
        for (int k : new int[] {-1, 4, WILD[0], WILD[1]}) {
            still("image(" + k + ")", RefusedTest::rich, x -> x.image(k), -1);
            still("back(" + k + ")", RefusedTest::rich, x -> x.back(k), -1);
        }
        still("back(1), never made", RefusedTest::rich, x -> x.back(1), -1);
        still("back(3), never made", RefusedTest::rich, x -> x.back(3), -1);
        for (int k = 0; k < 4; k++) { int at = k; still("back(" + k + ") of a new object", RefusedTest::fresh, x -> x.back(at), -1); }
    }

    // ---- the calls that ask

    private static void asks() {
        for (int a : new int[] {-1, 0, 2, 3, WILD[0], WILD[1]}) {
            asked("house(" + a + ", 0)", x -> x.house(a, 0));
            asked("house(0, " + a + ")", x -> x.house(0, a));
            asked("far(" + a + ", 0)", x -> x.far(a, 0));
            asked("ahead(" + a + ", 9, 1)", x -> x.ahead(a, 9, 1));
            asked("ahead(0, " + a + ", 0)", x -> x.ahead(0, a, 0));
            asked("ahead(0, 9, " + a + ")", x -> x.ahead(0, 9, a));
            asked("heard(" + a + ")", x -> x.heard(a));
            asked("order(9, " + a + ")", x -> x.order(9, a));
            asked("clear(9, " + a + ")", x -> x.clear(9, a));
            asked("silent(9, " + a + ")", x -> x.silent(9, a));
            asked("pence(9, " + a + ")", x -> x.pence(9, a));
            asked("pence(" + a + ", 0)", x -> x.pence(a, 0));
            asked("rests(" + a + ", 1, 9, 0)", x -> x.rests(a, 1, 9, 0));
            asked("rests(0, 1, 9, " + a + ")", x -> x.rests(0, 1, 9, a));
            asked("first(" + a + ")", x -> x.first(a));
            asked("ruled(" + a + ")", x -> x.ruled(a));
            asked("look(" + a + ")", x -> x.look(a));
            asked("sparks(" + a + ", 9, 50, 0)", x -> x.sparks(a, 9, 50, 0));
            asked("sparks(2, 9, " + a + ", 0)", x -> x.sparks(2, 9, a, 0));
            asked("sparks(2, 9, 50, " + a + ")", x -> x.sparks(2, 9, 50, a));
            asked("count(" + a + ")", x -> x.count(a));
        }
        for (int n : new int[] {-1, 0, 1, 20, 21, 60, 61, 100, 101}) {
            asked("left(" + n + ")", x -> x.left(n));
            asked("ahead(0, " + n + ", 2)", x -> x.ahead(0, n, 2));
            asked("order(" + n + ", NONE)", x -> x.order(n, -1));
            asked("water(" + n + ")", x -> x.water(n));
            asked("clear(" + n + ", 1)", x -> x.clear(n, 1));
            asked("silent(" + n + ", 1)", x -> x.silent(n, 1));
            asked("rests(0, 1, " + n + ", 1)", x -> x.rests(0, 1, n, 1));
            asked("sparks(10, " + n + ", 100, 1)", x -> x.sparks(10, n, 100, 1));
        }
        asked("out()", SmokeWord::out);
        asked("canBurn()", SmokeWord::canBurn);
    }

    public static void main(String[] args) {
        tape(); texts(); acts(); others(); asks();
        finish();
    }
}
