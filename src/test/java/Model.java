import java.util.ArrayDeque;
import java.util.ArrayList;
import java.util.Arrays;
import java.util.Collections;
import java.util.Deque;
import java.util.List;
import java.util.Map;
import java.util.TreeMap;

/** The document once more, as slow and as near to its words as can be: ModelTest holds SmokeWord against it. */
final class Model {
    static final class Fault extends RuntimeException {
        private static final long serialVersionUID = 1;
        final int number;
        Fault(int place, int kind) { super(null, null, false, false); number = 1 + 8 * place + kind; }
    }

    // ---- the languages, read byte by byte

    static final class Text {
        final byte[] bytes;
        int at = 0;
        Text(byte[] bytes) { this.bytes = bytes; }
        int peek() { return at < bytes.length ? bytes[at] & 255 : -1; }
        void blanks() { while (peek() == 32) at++; }
        /** The word that begins here, "" if none does; nothing is passed. */
        String word() {
            blanks();
            int to = at;
            while (to < bytes.length && bytes[to] >= 'a' && bytes[to] <= 'z') to++;
            return new String(bytes, at, to - at, java.nio.charset.StandardCharsets.ISO_8859_1);
        }
        boolean digit() { blanks(); return peek() >= '0' && peek() <= '9'; }
        int number(int least, int most) {
            if (!digit()) throw new Fault(at, 0);
            int start = at;
            StringBuilder digits = new StringBuilder();
            while (digit0()) { digits.append((char) peek()); at++; }
            if (digits.length() > 5) throw new Fault(start, 1);
            int value = Integer.parseInt(digits.toString());
            if (value < least || value > most) throw new Fault(start, 1);
            return value;
        }
        private boolean digit0() { return peek() >= '0' && peek() <= '9'; }
        boolean sign(char c) { blanks(); if (peek() != c) return false; at++; return true; }
        boolean ends() { blanks(); return peek() == -1; }
        Fault bad() { blanks(); return new Fault(at, 0); }
    }

    static final class Land implements Cloneable {
        int water, leap;
        List<int[]> houses = new ArrayList<>();          // worth, heat, says
        Map<Integer, Integer> roads = new TreeMap<>();    // low * 10 + high: hours
        List<int[]> besides = new ArrayList<>();

        boolean beside(int a, int b) {
            for (int[] two : besides) if (two[0] == a && two[1] == b || two[0] == b && two[1] == a) return true;
            return false;
        }

        int far(int from, int to) {
            int[] best = new int[houses.size() + 1];
            Arrays.fill(best, 1000000);
            best[from] = 0;
            for (int round = 0; round < 10; round++)
                for (Map.Entry<Integer, Integer> road : roads.entrySet()) {
                    int a = road.getKey() / 10, b = road.getKey() % 10;
                    best[a] = Math.min(best[a], best[b] + road.getValue());
                    best[b] = Math.min(best[b], best[a] + road.getValue());
                }
            return best[to] >= 1000000 ? -2 : best[to];
        }
    }

    static Land readLand(byte[] bytes) {
        Text t = new Text(bytes);
        Land land = new Land();
        int clauses = 0;
        do {
            String word = t.word();
            int start = t.at;
            if (!List.of("valley", "house", "road", "beside").contains(word)) throw t.bad();
            boolean first = clauses == 0;
            if (clauses == 40 || word.equals("valley") && !first || !word.equals("valley") && first
                || word.equals("house") && land.houses.size() == 6) throw new Fault(start, 4);
            clauses++;
            t.at += word.length();
            int known = land.houses.size();
            switch (word) {
                case "valley" -> { land.water = t.number(0, 9); land.leap = t.number(1, 9); }
                case "house" -> {
                    int worth = t.number(0, 99), heat = t.number(0, 9), says = t.number(0, 20);
                    land.houses.add(new int[] {worth, worth == 0 ? 0 : heat, says});
                }
                case "road" -> {
                    int a = t.number(0, known);
                    t.blanks();
                    int place = t.at;
                    int b = t.number(0, known);
                    if (a == b) throw new Fault(place, 1);
                    land.roads.put(Math.min(a, b) * 10 + Math.max(a, b), t.number(1, 9));
                }
                default -> {
                    int a = t.number(0, known - 1);
                    t.blanks();
                    int place = t.at;
                    int b = t.number(0, known - 1);
                    if (a == b) throw new Fault(place, 1);
                    land.besides.add(new int[] {a, b});
                }
            }
        } while (t.sign(';'));
        if (!t.ends()) throw t.bad();
        return land;
    }

    interface Sum { long of(Now now, int house); }
    interface Test { boolean holds(Now now, int house); }
    record Clause(Sum sum, Test test) { }

    static final class RuleText {
        final Text t;
        int parts = 0;
        RuleText(byte[] bytes) { t = new Text(bytes); }

        List<Clause> read() {
            List<Clause> clauses = new ArrayList<>();
            do {
                if (!t.word().equals("go")) throw t.bad();
                if (clauses.size() == 12) throw new Fault(t.at, 4);
                t.at += 2;
                Sum sum = sum();
                Test test = null;
                if (t.word().equals("if")) { t.at += 2; test = test(0); }
                clauses.add(new Clause(sum, test));
            } while (t.sign(';'));
            if (!t.ends()) throw t.bad();
            return clauses;
        }

        Test test(int depth) {
            Test left = part(depth);
            while (t.word().equals("or")) {
                t.at += 2;
                Test a = left, b = part(depth);
                left = (now, h) -> a.holds(now, h) || b.holds(now, h);
            }
            return left;
        }

        Test part(int depth) {
            Test left = fact(depth);
            while (t.word().equals("and")) {
                t.at += 3;
                Test a = left, b = fact(depth);
                left = (now, h) -> a.holds(now, h) && b.holds(now, h);
            }
            return left;
        }

        Test fact(int depth) {
            if (t.word().equals("not")) {
                if (depth == 10) throw new Fault(t.at, 2);
                t.at += 3;
                Test a = fact(depth + 1);
                return (now, h) -> !a.holds(now, h);
            }
            if (t.peek() == '[') {
                if (depth == 10) throw new Fault(t.at, 2);
                t.at++;
                Test a = test(depth + 1);
                if (!t.sign(']')) throw t.bad();
                return a;
            }
            Sum a = sum();
            t.blanks();
            int place = t.at;
            String sign = "";
            for (String s : List.of("<=", ">=", "<", "=", ">"))
                if (sign.isEmpty() && new String(t.bytes, t.at, Math.min(s.length(), t.bytes.length - t.at),
                    java.nio.charset.StandardCharsets.ISO_8859_1).equals(s)) sign = s;
            if (sign.isEmpty()) throw t.bad();
            if (++parts > 60) throw new Fault(place, 3);
            t.at += sign.length();
            Sum b = sum();
            return switch (sign) {
                case "<=" -> (now, h) -> a.of(now, h) <= b.of(now, h);
                case ">=" -> (now, h) -> a.of(now, h) >= b.of(now, h);
                case "<" -> (now, h) -> a.of(now, h) < b.of(now, h);
                case ">" -> (now, h) -> a.of(now, h) > b.of(now, h);
                default -> (now, h) -> a.of(now, h) == b.of(now, h);
            };
        }

        Sum sum() {
            Sum left = term();
            while (true) {
                Sum a = left;
                if (t.sign('+')) { Sum b = term(); left = (now, h) -> a.of(now, h) + b.of(now, h); }
                else if (t.sign('-')) { Sum b = term(); left = (now, h) -> a.of(now, h) - b.of(now, h); }
                else return left;
            }
        }

        Sum term() {
            Sum left = value();
            while (true) {
                Sum a = left;
                if (t.sign('*')) { Sum b = value(); left = (now, h) -> a.of(now, h) * b.of(now, h); }
                else if (t.sign('/')) {
                    Sum b = value();
                    left = (now, h) -> b.of(now, h) == 0 ? 0 : a.of(now, h) / b.of(now, h);
                } else if (t.sign('%')) {
                    Sum b = value();
                    left = (now, h) -> b.of(now, h) == 0 ? 0 : a.of(now, h) % b.of(now, h);
                } else return left;
            }
        }

        Sum value() {
            if (t.digit()) {
                int place = t.at;
                int number = t.number(0, 99999);
                if (++parts > 60) throw new Fault(place, 3);
                return (now, h) -> number;
            }
            String word = t.word();
            int place = t.at;
            Sum sum = switch (word) {
                case "house" -> (now, h) -> h;
                case "says" -> (now, h) -> now.says[h];
                case "worth" -> (now, h) -> now.worth[h];
                case "smoke" -> (now, h) -> now.heat[h] > 0 ? 1 : 0;
                case "far" -> (now, h) -> now.land.far(now.at, h + 1);
                case "near" -> (now, h) -> {
                    int near = 0;
                    for (int i = 0; i < now.worth.length; i++) if (now.land.beside(i, h) && now.heat[i] > 0) near++;
                    return near;
                };
                case "fires" -> (now, h) -> Arrays.stream(now.heat).filter(x -> x > 0).count();
                case "lost" -> (now, h) -> now.lost;
                case "been" -> (now, h) -> now.been[h];
                case "water" -> (now, h) -> now.water;
                case "hour" -> (now, h) -> now.hour;
                default -> throw t.bad();
            };
            if (++parts > 60) throw new Fault(place, 3);
            t.at += word.length();
            return sum;
        }
    }

    // ---- how all is

    static final class Now {
        Land land;
        int water, lost, hour, at, to = -1, toGo, came = -1;
        int[] worth, heat, says, been;
        List<Clause> rule;
        /** Not null: the brigade goes by this row. */
        Deque<Integer> row;

        static Now begin(Land land) {
            Now now = new Now();
            now.land = land;
            now.water = land.water;
            int n = land.houses.size();
            now.worth = new int[n]; now.heat = new int[n]; now.says = new int[n]; now.been = new int[n];
            for (int h = 0; h < n; h++) {
                now.worth[h] = land.houses.get(h)[0];
                now.heat[h] = land.houses.get(h)[1];
                now.says[h] = land.houses.get(h)[2];
            }
            return now;
        }

        Now copy() {
            Now c = new Now();
            c.land = land; c.water = water; c.lost = lost; c.hour = hour; c.at = at; c.to = to; c.toGo = toGo;
            c.worth = worth.clone(); c.heat = heat.clone(); c.says = says.clone(); c.been = been.clone();
            c.rule = rule;
            return c;
        }

        long sumOf(int h) {
            if (rule == null) return heat[h] > 0 ? says[h] : 0;
            for (Clause c : rule) if (c.test() == null || c.test().holds(this, h)) return c.sum().of(this, h);
            return 0;
        }

        void sent() {
            if (to != -1) return;
            if (at > 0 && heat[at - 1] > 0) return;
            int whither = -1;
            if (row != null) {
                while (!row.isEmpty()) {
                    int next = row.pollFirst();
                    if (land.far(at, next + 1) != -2) { whither = next; break; }
                }
            } else {
                long most = 0;
                for (int h = worth.length - 1; h >= 0; h--) {
                    if (land.far(at, h + 1) == -2) continue;
                    long sum = sumOf(h);
                    if (sum > 0 && sum >= most) { most = sum; whither = h; }
                }
            }
            if (whither >= 0 && at != whither + 1) { to = whither + 1; toGo = land.far(at, to); }
        }

        int hour() {
            sent();
            if (to != -1) { toGo--; if (toGo == 0) { at = to; to = -1; } }
            came = -1;
            if (to == -1 && at > 0) {
                been[at - 1]++;
                if (heat[at - 1] > 0) { came = at - 1; heat[at - 1] = Math.max(0, heat[at - 1] - water); }
            }
            int gone = 0;
            for (int h = 0; h < worth.length; h++) { int x = Math.min(worth[h], heat[h]); worth[h] -= x; gone += x; }
            int[] then = heat.clone();
            for (int h = 0; h < worth.length; h++) {
                if (worth[h] == 0) heat[h] = 0;
                else if (then[h] > 0) heat[h] = Math.min(9, then[h] + 1);
                else for (int i = 0; i < worth.length; i++)
                    if (land.beside(i, h) && then[i] >= land.leap && worth[i] > 0) heat[h] = 1;
            }
            lost += gone;
            hour++;
            return gone;
        }

        Now in(int n) { for (int i = 0; i < n; i++) hour(); return this; }
        int all() { return Arrays.stream(worth).sum(); }
        int fires() { int b = 0; for (int h = 0; h < heat.length; h++) if (heat[h] > 0) b |= 1 << h; return b; }
    }

    static final class Kept { Land land; Now now; List<int[]> notes; int x, force; }

    byte[] tape = new byte[0];
    Land land;
    Now now;
    List<List<Clause>> rules = new ArrayList<>();
    int force = -1;
    int x = 0;
    List<int[]> notes = new ArrayList<>();
    Deque<Now> acts = new ArrayDeque<>();
    Kept[] images = new Kept[4];

    int feed(int a, int b, int c, int d, int e) {
        if (tape.length + 20 > 400) return -1;
        byte[] more = Arrays.copyOf(tape, tape.length + 20);
        java.nio.ByteBuffer.wrap(more, tape.length, 20).putInt(a).putInt(b).putInt(c).putInt(d).putInt(e);
        tape = more;
        return tape.length;
    }
    int end(int n) { if (n < 0 || n > tape.length) return -1; tape = Arrays.copyOf(tape, n); return n; }
    int valley() {
        try { land = readLand(tape); } catch (Fault f) { return -2 - f.number; }
        now = Now.begin(land);
        notes.clear(); acts.clear(); tape = new byte[0];
        return land.houses.size();
    }
    int rule() {
        if (rules.size() == 6) return -1;
        try { rules.add(new RuleText(tape).read()); } catch (Fault f) { return -2 - f.number; }
        tape = new byte[0];
        return rules.size() - 1;
    }
    int force(int rule) {
        if (rule < -1 || rule >= rules.size()) return -2;
        int was = force; force = rule; return was;
    }
    int houses() { return land == null ? 0 : land.houses.size(); }
    boolean known(int h) { return h >= 0 && h < houses(); }
    int house(int h, int what) {
        if (!known(h) || what < 0 || what > 4) return -1;
        int bits = 0;
        for (int i = 0; i < houses(); i++) if (land.beside(h, i)) bits |= 1 << i;
        return new int[] {now.worth[h], now.heat[h], now.says[h], bits, now.been[h]}[what];
    }
    int far(int from, int to) {
        if (land == null || from < 0 || to < 0 || from > houses() || to > houses()) return -1;
        return land.far(from, to);
    }
    void act() { acts.addLast(now.copy()); if (acts.size() > 20) acts.removeFirst(); }
    Now go() { Now c = now.copy(); c.rule = force < 0 ? null : rules.get(force); return c; }
    int hour() {
        if (land == null || now.hour == 999) return -1;
        act();
        now.rule = force < 0 ? null : rules.get(force);
        return now.hour();
    }
    int light(int h) {
        if (!known(h) || now.worth[h] == 0 || now.heat[h] > 0) return -1;
        act(); now.heat[h] = 1; return now.worth[h];
    }
    int douse(int h) {
        if (!known(h) || now.heat[h] == 0) return -1;
        act(); int had = now.heat[h]; now.heat[h] = 0; return had;
    }
    int say(int h, int much) {
        if (!known(h) || much < 0 || much > 20 || now.says[h] == much) return -1;
        act(); int said = now.says[h]; now.says[h] = much; return said;
    }
    int send(int h) {
        if (!known(h) || now.to != -1 || now.at == h + 1 || land.far(now.at, h + 1) == -2) return -1;
        act(); now.to = h + 1; now.toGo = land.far(now.at, h + 1); return now.toGo;
    }
    int undo() { if (acts.isEmpty()) return -1; now = acts.removeLast(); return acts.size(); }
    int ahead(int h, int n, int what) {
        if (land == null || n < 0 || n > 100 || what < 0 || what > 2 || what < 2 && !known(h)) return -1;
        Now then = go().in(n);
        return what == 0 ? then.heat[h] : what == 1 ? then.worth[h] : then.at;
    }
    int left(int n) { return land == null || n < 0 || n > 100 ? -1 : go().in(n).all(); }
    int out() {
        if (land == null) return -1;
        for (int i = 0; i < 200; i++) { Now then = go().in(i); if (then.fires() == 0) return now.hour + i; }
        return -2;
    }
    int canBurn() {
        if (land == null) return -1;
        Deque<Integer> open = new ArrayDeque<>();
        int bits = now.fires();
        for (int h = 0; h < houses(); h++) if ((bits >> h & 1) == 1) open.add(h);
        while (!open.isEmpty()) {
            int h = open.poll();
            for (int i = 0; i < houses(); i++)
                if (land.beside(h, i) && now.worth[i] > 0 && (bits >> i & 1) == 0) { bits |= 1 << i; open.add(i); }
        }
        return bits;
    }
    static void rows(List<Integer> row, List<Integer> rest, List<List<Integer>> all) {
        if (rest.isEmpty()) { all.add(new ArrayList<>(row)); return; }
        for (Integer h : rest) {
            List<Integer> fewer = new ArrayList<>(rest);
            fewer.remove(h);
            row.add(h);
            rows(row, fewer, all);
            row.remove(row.size() - 1);
        }
    }
    int order(int n, int what) {
        if (land == null || n < 1 || n > 60 || what < -1 || what > 5) return -3;
        List<Integer> hot = new ArrayList<>();
        for (int h = 0; h < houses(); h++) if (now.heat[h] > 0) hot.add(h);
        List<List<Integer>> all = new ArrayList<>();
        rows(new ArrayList<>(), hot, all);
        int most = -1;
        List<Integer> best = null;
        for (List<Integer> row : all) {
            Now then = go();
            then.row = new ArrayDeque<>(row);
            int worth = then.in(n).all();
            if (worth > most) { most = worth; best = row; }
        }
        if (what == -1) return most;
        return what < best.size() ? best.get(what) : -2;
    }
    int heard(int h) {
        if (!known(h)) return -1;
        for (int much = 0; much <= 20; much++) {
            Now then = go();
            then.says[h] = much;
            for (int i = 0; i < 20; i++) { then.hour(); if (then.came == h) return much; }
        }
        return -2;
    }
    int water(int n) {
        if (land == null || n < 1 || n > 60) return -1;
        for (int w = 0; w <= 9; w++) {
            Now then = go();
            then.water = w;
            then.in(n);
            boolean good = true;
            for (int h = 0; h < houses(); h++) if (now.worth[h] > 0 && then.worth[h] == 0) good = false;
            if (good) return w;
        }
        return -2;
    }
    int clear(int n, int what) {
        if (land == null || n < 1 || n > 60 || what < 0 || what > 1) return -2;
        int best = -1, most = -1;
        for (int h = -1; h < houses(); h++) {
            Now then = go();
            int saved = 0;
            if (h >= 0) { saved = then.worth[h]; then.worth[h] = 0; then.heat[h] = 0; }
            int much = saved + then.in(n).all();
            if (much > most) { most = much; best = h; }
        }
        return what == 0 ? best : most;
    }
    int silent(int n, int what) {
        if (land == null || n < 1 || n > 60 || what < 0 || what > 2) return -1;
        List<int[]> all = new ArrayList<>();
        for (int set = 0; set < 1 << houses(); set++) {
            Now then = go();
            for (int h = 0; h < houses(); h++) if ((set >> h & 1) == 1) then.says[h] = 0;
            all.add(new int[] {Integer.bitCount(set), set, then.in(n).all()});
        }
        int[] best = Collections.min(all, (p, q) -> p[2] != q[2] ? q[2] - p[2] : p[0] != q[0] ? p[0] - q[0] : p[1] - q[1]);
        return best[what];
    }
    int pence(int much, int h) {
        if (!known(h) || much < 0 || much > 9999) return -1;
        int[] lost = new int[houses()];
        int total = 0;
        for (int i = 0; i < houses(); i++) { lost[i] = land.houses.get(i)[0] - now.worth[i]; total += lost[i]; }
        if (total == 0) return 0;
        int[] part = new int[houses()];
        List<Integer> who = new ArrayList<>();
        int over = much;
        for (int i = 0; i < houses(); i++) { part[i] = much * lost[i] / total; over -= part[i]; who.add(i); }
        int all = total;
        who.sort((p, q) -> much * lost[q] % all != much * lost[p] % all ? much * lost[q] % all - much * lost[p] % all : p - q);
        for (int i = 0; i < over; i++) part[who.get(i)]++;
        return part[h];
    }
    int rests(int one, int other, int n, int what) {
        if (!known(one) || !known(other) || one == other || n < 1 || n > 20 || what < 0 || what > 2) return -1;
        int[][][] has = new int[5][5][];
        for (int a = 0; a < 5; a++) for (int b = 0; b < 5; b++) {
            Now then = go();
            then.says[one] = 5 * a; then.says[other] = 5 * b;
            then.in(n);
            has[a][b] = new int[] {then.worth[one] - a, then.worth[other] - b};
        }
        int many = 0, first = -2, second = -2;
        for (int a = 0; a < 5; a++) for (int b = 0; b < 5; b++) {
            boolean rest = true;
            for (int c = 0; c < 5; c++) rest &= has[c][b][0] <= has[a][b][0] && has[a][c][1] <= has[a][b][1];
            if (rest && many++ == 0) { first = 5 * a; second = 5 * b; }
        }
        return what == 0 ? many : what == 1 ? first : second;
    }
    int first(int what) {
        if (land == null || what < 0 || what > 1) return -1;
        Now then = go();
        for (int i = 0; i < 60; i++) { then.hour(); if (then.came >= 0) return what == 0 ? then.came : now.hour + i; }
        return -2;
    }
    int note(int n, int place) {
        if (land == null) return -2;
        if (n == -1) { notes.clear(); return 0; }
        if (n < 0 || n > 60 || place < 0 || place > houses() || notes.size() == 10) return -2;
        notes.add(new int[] {n, place});
        return notes.size();
    }
    private int placeIn(int rule, int n) {
        Now then = Now.begin(land);
        then.rule = rule < 0 ? null : rules.get(rule);
        return then.in(n).at;
    }
    private List<Integer> candidates() {
        List<Integer> so = new ArrayList<>();
        for (int r = -1; r < rules.size(); r++) {
            int rule = r;
            if (notes.stream().allMatch(note -> placeIn(rule, note[0]) == note[1])) so.add(rule);
        }
        return so;
    }
    int ruled(int what) {
        if (land == null || what < 0 || what > 1) return -3;
        List<Integer> so = candidates();
        return what == 0 ? so.size() : so.isEmpty() ? -2 : so.get(0);
    }
    int look(int what) {
        if (land == null || what < 0 || what > 1) return -1;
        List<Integer> so = candidates();
        if (so.isEmpty()) return -2;
        int best = -1, fewest = 100;
        for (int hour = 0; hour <= 60; hour++) {
            int[] at = new int[7];
            for (int rule : so) at[placeIn(rule, hour)]++;
            int most = Arrays.stream(at).max().getAsInt();
            if (most < fewest) { fewest = most; best = hour; }
        }
        return what == 0 ? best : fewest;
    }
    int seed(int to) { if (to < 0) return -1; int was = x; x = to; return was; }
    int sparks(int m, int n, int p, int what) {
        if (land == null || m < 1 || m > 10 || n < 1 || n > 60 || p < 0 || p > 100 || what < 0 || what > 1) return -1;
        long y = x;
        int worth = 0, hot = 0;
        for (int i = 0; i < m; i++) {
            Now then = go();
            for (int j = 0; j < n; j++) {
                y = (y * 1103515245L + 12345L) % 2147483648L;
                if (y / 65536 % 100 < p && houses() > 0) {
                    y = (y * 1103515245L + 12345L) % 2147483648L;
                    int h = (int) (y / 65536 % houses());
                    if (then.worth[h] > 0 && then.heat[h] == 0) then.heat[h] = 1;
                }
                then.hour();
            }
            worth += then.all();
            hot += Integer.bitCount(then.fires());
        }
        return what == 0 ? worth : hot;
    }
    int count(int what) {
        boolean is = land != null;
        return switch (what) {
            case 0 -> is ? land.water : 0;
            case 1 -> is ? land.leap : 0;
            case 2 -> houses();
            case 3 -> rules.size();
            case 4 -> force;
            case 5 -> is ? now.hour : 0;
            case 6 -> is ? now.at : 0;
            case 7 -> is ? now.to : -1;
            case 8 -> is && now.to != -1 ? now.toGo : 0;
            case 9 -> is ? now.fires() : 0;
            case 10 -> is ? now.all() : 0;
            case 11 -> is ? land.houses.stream().mapToInt(h -> h[0]).sum() - now.all() : 0;
            case 12 -> notes.size();
            case 13 -> acts.size();
            case 14 -> x;
            case 15 -> tape.length;
            default -> -1;
        };
    }
    int image(int k) {
        if (k < 0 || k > 3) return -1;
        Kept kept = new Kept();
        kept.land = land; kept.now = now == null ? null : now.copy(); kept.notes = new ArrayList<>(notes);
        kept.x = x; kept.force = force;
        images[k] = kept;
        return count(5);
    }
    int back(int k) {
        if (k < 0 || k > 3 || images[k] == null) return -1;
        Kept kept = images[k];
        land = kept.land; now = kept.now == null ? null : kept.now.copy(); notes = new ArrayList<>(kept.notes);
        x = kept.x; force = kept.force;
        acts.clear();
        return count(5);
    }
}
