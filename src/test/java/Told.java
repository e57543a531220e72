/** What the tests share: texts told through the tape, and answers held against those that are due; tests extend it. */
class Told {
    private static int asked = 0;
    private static int wrong = 0;

    static void due(String of, String call, long got, long want) {
        asked++;
        if (got == want) return;
        wrong++;
        System.out.println(of + ": " + call + " answered " + got + ", due is " + want);
    }

    static void same(String of, String call, String got, String want) {
        asked++;
        if (got.equals(want)) return;
        wrong++;
        System.out.println(of + ": " + call + " left\n    " + got + ", due is\n    " + want);
    }

    /** Tells how it went, and ends with 1 if an answer was not as due. */
    static void finish() {
        System.out.println(wrong == 0 ? "all " + asked + " answers are as due" : wrong + " of " + asked + " answers are not as due");
        if (wrong != 0) System.exit(1);
    }

    /** The tape is this text, whatever it was. */
    static void put(SmokeWord x, String text) {
        x.end(0);
        for (int i = 0; i < text.length(); i += 20) {
            int[] v = new int[5];
            for (int j = 0; j < 20 && i + j < text.length(); j++) v[j / 4] |= text.charAt(i + j) << 24 - 8 * (j % 4);
            x.feed(v[0], v[1], v[2], v[3], v[4]);
        }
        x.end(text.length());
    }

    static int valley(SmokeWord x, String text) {
        put(x, text);
        return x.valley();
    }

    static int rule(SmokeWord x, String text) {
        put(x, text);
        return x.rule();
    }

    static SmokeWord of(String valley, String... rules) {
        SmokeWord x = new SmokeWord();
        valley(x, valley);
        for (String text : rules) rule(x, text);
        return x;
    }

    static SmokeWord forced(String valley, String text) {
        SmokeWord x = of(valley, text);
        x.force(0);
        return x;
    }

    static SmokeWord hours(SmokeWord x, int n) {
        for (int i = 0; i < n; i++) x.hour();
        return x;
    }

    /** The answer to a fault: its place and kind. */
    static int fault(int place, int kind) { return -2 - (1 + 8 * place + kind); }

    /** How many rests two houses have, found by saying and looking ahead. */
    static int restsByHand(SmokeWord x, int first, int second, int n) {
        int[][] one = new int[5][5], other = new int[5][5];
        for (int a = 0; a < 5; a++) for (int b = 0; b < 5; b++) {
            x.say(first, 5 * a);
            x.say(second, 5 * b);
            one[a][b] = x.ahead(first, n, 1) - a;
            other[a][b] = x.ahead(second, n, 1) - b;
        }
        int many = 0;
        for (int a = 0; a < 5; a++) for (int b = 0; b < 5; b++) {
            boolean rest = true;
            for (int c = 0; c < 5; c++) if (one[c][b] > one[a][b] || other[a][c] > other[a][b]) rest = false;
            if (rest) many++;
        }
        return many;
    }
}
