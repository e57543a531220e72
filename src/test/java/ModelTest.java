import java.util.ArrayList;
import java.util.List;
import java.util.Random;

/** Drawn runs of calls, with the same draws each time, on SmokeWord and on the plain model beside it. */
public final class ModelTest {
    private static final String[] WORDS = {"house", "says", "worth", "smoke", "far", "near", "fires", "lost", "been", "water", "hour"};
    private static final String[] SIGNS = {"<", "<=", "=", ">=", ">"};
    private static final String[] JOINS = {"+", "-", "*", "/", "%"};
    private static final String[] SCRAPS = {"valley", "house", "road", "beside", "go", "if", "or", "and", "not", "[", "]", ";", "<", "<=",
        "=", ">", " ", "0", "1", "9", "123456", "00001", "far", "x", "valleys", "+", "*", "%", "-", "/", "A", "\u00e9", "\0"};
    private final Random r;
    private final SmokeWord it = new SmokeWord();
    private final Model model = new Model();
    private final List<String> told = new ArrayList<>();
    private int wrong = 0;

    private ModelTest(long seed) { r = new Random(seed); }

    private int d(int n) { return r.nextInt(n); }
    private String gap() { return d(4) == 0 ? " ".repeat(d(3)) : ""; }

    private String value() { return d(3) > 0 ? WORDS[d(WORDS.length)] : String.valueOf(d(8) == 0 ? d(100000) : d(12)); }
    private String sum() {
        StringBuilder s = new StringBuilder(value());
        for (int i = d(4); i > 0; i--) s.append(gap()).append(JOINS[d(5)]).append(gap()).append(value());
        return s.toString();
    }
    private String fact(int depth) {
        if (depth > 0 && d(4) == 0) return "not " + fact(depth - 1);
        if (depth > 0 && d(3) == 0) return "[" + gap() + test(depth - 1) + gap() + "]";
        return sum() + gap() + SIGNS[d(5)] + gap() + sum();
    }
    private String test(int depth) {
        StringBuilder s = new StringBuilder(fact(depth));
        for (int i = d(3); i > 0; i--) s.append(d(2) == 0 ? " and " : " or ").append(fact(depth));
        return s.toString();
    }
    private String rule() {
        StringBuilder s = new StringBuilder();
        for (int i = 1 + d(3); i > 0; i--) {
            if (s.length() > 0) s.append(gap()).append(";").append(gap());
            s.append("go ").append(sum());
            if (d(3) > 0) s.append(" if ").append(test(d(4)));
        }
        return s.toString();
    }
    private String valley() {
        StringBuilder s = new StringBuilder("valley " + d(10) + " " + (1 + d(9)));
        int houses = d(12) == 0 ? d(3) : 2 + d(5);
        for (int h = 0; h < houses; h++)
            s.append(";").append(gap()).append("house ").append(d(8) == 0 ? 0 : d(100)).append(" ").append(d(2) == 0 ? 0 : d(10))
                .append(" ").append(d(21));
        for (int h = 1; h <= houses; h++)
            if (d(6) > 0) s.append(";road ").append(d(h)).append(" ").append(h).append(" ").append(1 + d(d(3) == 0 ? 9 : 3));
        for (int i = d(5); i > 0 && houses > 0; i--) {
            int a = d(houses + 1), b = d(houses + 1);
            if (a != b) s.append(";road ").append(a).append(" ").append(b).append(" ").append(1 + d(d(2) == 0 ? 2 : 9));
        }
        for (int i = d(9); i > 0 && houses > 1; i--) {
            int a = d(houses), b = d(houses);
            if (a != b) s.append(";beside ").append(a).append(" ").append(b);
        }
        return s.toString();
    }
    private String spoilt(String s) {
        for (int i = d(3); i >= 0; i--) {
            int at = d(s.length() + 1);
            switch (d(4)) {
                case 0 -> s = s.substring(0, at);
                case 1 -> s = s.substring(0, at) + SCRAPS[d(SCRAPS.length)] + s.substring(at);
                case 2 -> { int to = Math.min(s.length(), at + 1 + d(3)); s = s.substring(0, at) + s.substring(to); }
                default -> { int to = Math.min(s.length(), at + 1 + d(6)); s = s.substring(0, at) + SCRAPS[d(SCRAPS.length)] + s.substring(to); }
            }
        }
        return s;
    }

    private void same(String call, int got, int due) {
        told.add(call + " = " + got);
        if (got == due) return;
        wrong++;
        if (wrong > 1) return;
        System.out.println(call + " answered " + got + ", the model " + due + " behind:");
        for (String line : told) System.out.println("    " + line);
    }

    private void feed(String s) {
        if (s.length() > 400) s = s.substring(0, 400);
        told.add("text: " + s);
        int start = model.count(15);
        for (int i = 0; i < s.length(); i += 20) {
            int[] v = new int[5];
            for (int j = 0; j < 20; j++) v[j / 4] |= (i + j < s.length() ? s.charAt(i + j) : 0) << 24 - 8 * (j % 4);
            same("feed", it.feed(v[0], v[1], v[2], v[3], v[4]), model.feed(v[0], v[1], v[2], v[3], v[4]));
        }
        int n = start + s.length();
        same("end " + n, it.end(n), model.end(n));
    }
    private void emptied() { same("end 0", it.end(0), model.end(0)); }

    private int house() { return d(8) == 0 || model.houses() == 0 ? d(8) - 1 : d(model.houses()); }
    private int hours(int most) { return d(8) == 0 ? d(most + 4) - 2 : 1 + d(d(4) == 0 ? most : Math.min(most, 20)); }
    private int what(int least, int most) { return d(12) == 0 ? least - 1 + d(most - least + 3) : least + d(most - least + 1); }

    private void tellValley() {
        emptied();
        String s = valley();
        feed(d(6) == 0 ? spoilt(s) : s);
        same("valley()", it.valley(), model.valley());
    }
    private void tellRule() {
        emptied();
        String s = rule();
        feed(d(6) == 0 ? spoilt(s) : s);
        same("rule()", it.rule(), model.rule());
    }

    private void change() {
        int a = house(), b = d(24) - 2;
        switch (d(13)) {
            case 0, 1, 2, 3 -> same("hour()", it.hour(), model.hour());
            case 4 -> same("light " + a, it.light(a), model.light(a));
            case 5 -> same("douse " + a, it.douse(a), model.douse(a));
            case 6 -> same("say " + a + " " + b, it.say(a, b), model.say(a, b));
            case 7 -> same("send " + a, it.send(a), model.send(a));
            case 8 -> same("undo", it.undo(), model.undo());
            case 9 -> { int f = d(9) - 2; same("force " + f, it.force(f), model.force(f)); }
            case 10 -> { int x = d(5) == 0 ? -d(3) : r.nextInt() & 2147483647; same("seed " + x, it.seed(x), model.seed(x)); }
            case 11 -> {
                int n = d(6) == 0 ? d(64) - 2 : d(6), p = d(3) == 0 ? house() : d(2);
                same("note " + n + " " + p, it.note(n, p), model.note(n, p));
            }
            default -> {
                int k = d(6) - 1;
                if (d(2) == 0) same("image " + k, it.image(k), model.image(k));
                else same("back " + k, it.back(k), model.back(k));
            }
        }
    }

    private void ask() {
        int a = house(), b = house(), n = hours(60), w;
        switch (d(20)) {
            case 0 -> { w = what(0, 4); same("house " + a + " " + w, it.house(a, w), model.house(a, w)); }
            case 1 -> { a += d(2); b += d(2); same("far " + a + " " + b, it.far(a, b), model.far(a, b)); }
            case 2 -> { n = hours(100); w = what(0, 2); same("ahead " + a + " " + n + " " + w, it.ahead(a, n, w), model.ahead(a, n, w)); }
            case 3 -> { n = hours(100); same("left " + n, it.left(n), model.left(n)); }
            case 4 -> same("out", it.out(), model.out());
            case 5 -> same("canBurn", it.canBurn(), model.canBurn());
            case 6 -> { w = what(-1, 5); same("order " + n + " " + w, it.order(n, w), model.order(n, w)); }
            case 7 -> same("heard " + a, it.heard(a), model.heard(a));
            case 8 -> same("water " + n, it.water(n), model.water(n));
            case 9 -> { w = what(0, 1); same("clear " + n + " " + w, it.clear(n, w), model.clear(n, w)); }
            case 10 -> { w = what(0, 2); same("silent " + n + " " + w, it.silent(n, w), model.silent(n, w)); }
            case 11 -> { w = d(10) == 0 ? d(12000) - 1000 : d(300); same("pence " + w + " " + a, it.pence(w, a), model.pence(w, a)); }
            case 12, 13 -> {
                n = hours(20);
                w = what(0, 2);
                same("rests " + a + " " + b + " " + n + " " + w, it.rests(a, b, n, w), model.rests(a, b, n, w));
            }
            case 14 -> { w = what(0, 1); same("first " + w, it.first(w), model.first(w)); }
            case 15 -> { w = what(0, 1); same("ruled " + w, it.ruled(w), model.ruled(w)); }
            case 16 -> { w = what(0, 1); same("look " + w, it.look(w), model.look(w)); }
            case 17 -> {
                int m = what(1, 10), p = d(104) - 1;
                w = what(0, 1);
                same("sparks " + m + " " + n + " " + p + " " + w, it.sparks(m, n, p, w), model.sparks(m, n, p, w));
            }
            default -> { w = what(0, 15); same("count " + w, it.count(w), model.count(w)); }
        }
    }

    private void state() {
        for (int w = 0; w < 16; w++) same("count " + w, it.count(w), model.count(w));
        for (int h = 0; h < 6; h++) for (int w = 0; w < 5; w++) same("house " + h + " " + w, it.house(h, w), model.house(h, w));
    }

    private boolean run() {
        if (d(3) == 0) for (int i = d(10); i > 0; i--) ask();
        for (int i = d(5); i > 0; i--) tellRule();
        tellValley();
        for (int i = 0; i < 60 && wrong == 0; i++) {
            int k = d(60);
            if (k == 0) tellValley();
            else if (k == 1) tellRule();
            else if (k < 30) change();
            else ask();
            if (k % 20 == 19) state();
        }
        state();
        return wrong == 0;
    }

    public static void main(String[] args) {
        int runs = args.length > 0 ? Integer.parseInt(args[0]) : 4000;
        long from = args.length > 1 ? Long.parseLong(args[1]) : 0;
        int bad = 0;
        for (long seed = from; seed < from + runs && bad < 3; seed++) {
            if (!new ModelTest(seed).run()) { bad++; System.out.println("with the draws of " + seed); }
        }
        System.out.println(bad == 0 ? "all " + runs + " runs are as the model's" : "runs differ from the model's");
        if (bad > 0) System.exit(1);
    }
}
