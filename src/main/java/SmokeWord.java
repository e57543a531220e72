import java.util.Arrays;

/** A valley whose brigade goes where the smoke's own account calls it. README.md says how to use it. */
public final class SmokeWord {
    public static final int NONE = -1;

    private static final int NO_WAY = -2;
    private static final int WITHOUT = -2;
    private static final int END = -1;
    private static final int MOST_BYTES = 400;
    private static final int MOST_HOUSES = 6;
    private static final int MOST_PLACES = 7;
    private static final int MOST_RULES = 6;
    private static final int MOST_ACTS = 20;
    private static final int MOST_NOTES = 10;
    private static final int MOST_IMAGES = 4;
    private static final int MOST_SAID = 20;
    private static final int LAST_HOUR = 999;
    private static final int LAST_NOTED = 60;

    private static final int FAULT_STANDS = 0;
    private static final int FAULT_NUMBER = 1;
    private static final int FAULT_DEEP = 2;
    private static final int FAULT_PARTS = 3;
    private static final int FAULT_CLAUSE = 4;

    private static final int OP_HOUSE = 0;
    private static final int OP_SAYS = 1;
    private static final int OP_WORTH = 2;
    private static final int OP_SMOKE = 3;
    private static final int OP_FAR = 4;
    private static final int OP_NEAR = 5;
    private static final int OP_FIRES = 6;
    private static final int OP_LOST = 7;
    private static final int OP_BEEN = 8;
    private static final int OP_WATER = 9;
    private static final int OP_HOUR = 10;
    private static final int OP_NUMBER = 11;
    private static final int OP_NOT = 12;
    private static final int OP_ADD = 13;
    private static final int OP_TAKE = 14;
    private static final int OP_TIMES = 15;
    private static final int OP_PART = 16;
    private static final int OP_REST = 17;
    private static final int OP_LESS = 18;
    private static final int OP_UP_TO = 19;
    private static final int OP_SAME = 20;
    private static final int OP_FROM = 21;
    private static final int OP_MORE = 22;
    private static final int OP_AND = 23;
    private static final int OP_OR = 24;
    private static final int OP_BITS = 5;

    // Tokens: a sign is its byte; a word that a rule can weigh is WORDS and its operation.
    private static final int NUMBER = 256;
    private static final int UP_TO = 257;
    private static final int FROM = 258;
    private static final int UNKNOWN = 259;
    private static final int VALLEY = 260;
    private static final int ROAD = 261;
    private static final int BESIDE = 262;
    private static final int GO = 263;
    private static final int IF = 264;
    private static final int OR = 265;
    private static final int AND = 266;
    private static final int NOT = 267;
    private static final int WORDS = 300;
    private static final int TOO_LONG = 100000;

    private final Tape tape = new Tape();
    private final World world = new World();
    private final World[] images = new World[MOST_IMAGES];
    private final Rule[] rules = new Rule[MOST_RULES];
    private int ruleCount;
    private final Scene[] acts = new Scene[MOST_ACTS];
    private int actEnd;
    private int actCount;
    private final ValleyReader valleyReader = new ValleyReader(tape);
    private final RuleReader ruleReader = new RuleReader(tape);
    private final Course course = new Course(world, rules);
    private final Asker asker = new Asker(world, course);
    private final Orders orders = new Orders(course);
    private final Looker looker = new Looker(world, course);

    public SmokeWord() {
        for (int i = 0; i < MOST_ACTS; i++) {
            acts[i] = new Scene();
        }
    }

    public int feed(int a, int b, int c, int d, int e) {
        if (tape.length > MOST_BYTES - 20) {
            return NONE;
        }
        tape.append(a);
        tape.append(b);
        tape.append(c);
        tape.append(d);
        tape.append(e);
        return tape.length;
    }

    public int end(int n) {
        if (n < 0 || n > tape.length) {
            return NONE;
        }
        tape.length = n;
        return n;
    }

    public int valley() {
        if (!valleyReader.read()) {
            return -2 - tape.fault;
        }
        world.valley.copyFrom(valleyReader.valley);
        world.scene.startOf(world.valley);
        world.notes = 0;
        actCount = 0;
        tape.length = 0;
        return world.valley.houses;
    }

    public int rule() {
        if (ruleCount >= MOST_RULES) {
            return NONE;
        }
        if (!ruleReader.read()) {
            return -2 - tape.fault;
        }
        rules[ruleCount] = ruleReader.compiled();
        tape.length = 0;
        return ruleCount++;
    }

    public int force(int rule) {
        if (rule < NONE || rule >= ruleCount) {
            return -2;
        }
        int was = world.inForce;
        world.inForce = rule;
        return was;
    }

    public int house(int house, int what) {
        if (!isHouse(house)) {
            return NONE;
        }
        switch (what) {
            case 0:
                return world.scene.worth[house];
            case 1:
                return world.scene.heat[house];
            case 2:
                return world.scene.says[house];
            case 3:
                return world.valley.beside[house];
            case 4:
                return world.scene.been[house];
            default:
                return NONE;
        }
    }

    public int far(int from, int to) {
        if (!isPlace(from) || !isPlace(to)) {
            return NONE;
        }
        return world.valley.ways[from * MOST_PLACES + to];
    }

    public int hour() {
        if (!world.valley.told || world.scene.hour >= LAST_HOUR) {
            return NONE;
        }
        keepAct();
        course.beginNow();
        int lost = course.goOneHour();
        world.scene.copyFrom(course.scene);
        return lost;
    }

    public int light(int house) {
        if (!isHouse(house) || !world.scene.canCatch(house)) {
            return NONE;
        }
        keepAct();
        world.scene.heat[house] = 1;
        return world.scene.worth[house];
    }

    public int douse(int house) {
        if (!isHouse(house) || world.scene.heat[house] == 0) {
            return NONE;
        }
        keepAct();
        int had = world.scene.heat[house];
        world.scene.heat[house] = 0;
        return had;
    }

    public int say(int house, int much) {
        if (!isHouse(house) || much < 0 || much > MOST_SAID || much == world.scene.says[house]) {
            return NONE;
        }
        keepAct();
        int said = world.scene.says[house];
        world.scene.says[house] = much;
        return said;
    }

    public int send(int house) {
        if (!isHouse(house) || world.scene.to != NONE) {
            return NONE;
        }
        int hours = far(world.scene.at, house + 1);
        if (hours <= 0) {
            return NONE;
        }
        keepAct();
        world.scene.setOut(house + 1, hours);
        return hours;
    }

    public int undo() {
        if (actCount == 0) {
            return NONE;
        }
        actEnd = actEnd == 0 ? MOST_ACTS - 1 : actEnd - 1;
        actCount--;
        world.scene.copyFrom(acts[actEnd]);
        return actCount;
    }

    public int ahead(int house, int n, int what) {
        if (!isAsked(n, 0, 100) || what < 0 || what > 2 || what != 2 && !isHouse(house)) {
            return NONE;
        }
        course.beginNow();
        course.goHours(n);
        if (what == 2) {
            return course.scene.at;
        }
        return what == 0 ? course.scene.heat[house] : course.scene.worth[house];
    }

    public int left(int n) {
        if (!isAsked(n, 0, 100)) {
            return NONE;
        }
        course.beginNow();
        return course.worthAfter(n);
    }

    public int out() {
        return world.valley.told ? asker.hourOut() : NONE;
    }

    public int canBurn() {
        return world.valley.told ? asker.housesThatCanBurn() : NONE;
    }

    public int order(int n, int what) {
        if (!isAsked(n, 1, 60) || what < NONE || what >= MOST_HOUSES) {
            return -3;
        }
        orders.findBest(n);
        if (what == NONE) {
            return orders.most;
        }
        return what < orders.rowLength ? orders.best[what] : WITHOUT;
    }

    public int heard(int house) {
        return isHouse(house) ? asker.leastHeard(house) : NONE;
    }

    public int water(int n) {
        return isAsked(n, 1, 60) ? asker.leastWater(n) : NONE;
    }

    public int clear(int n, int what) {
        if (!isAsked(n, 1, 60) || what < 0 || what > 1) {
            return -2;
        }
        asker.findCleared(n);
        return asker.found[what];
    }

    public int silent(int n, int what) {
        if (!isAsked(n, 1, 60) || what < 0 || what > 2) {
            return NONE;
        }
        asker.findSilent(n);
        return asker.found[what];
    }

    public int pence(int much, int house) {
        if (!isHouse(house) || much < 0 || much > 9999) {
            return NONE;
        }
        return asker.penceOf(much, house);
    }

    public int rests(int one, int other, int n, int what) {
        if (!isHouse(one) || !isHouse(other) || one == other) {
            return NONE;
        }
        if (!isAsked(n, 1, 20) || what < 0 || what > 2) {
            return NONE;
        }
        asker.findRests(one, other, n);
        return asker.found[what];
    }

    public int first(int what) {
        if (!world.valley.told || what < 0 || what > 1) {
            return NONE;
        }
        asker.findFirst();
        return asker.found[what];
    }

    public int note(int n, int place) {
        if (!world.valley.told) {
            return -2;
        }
        if (n == NONE) {
            world.notes = 0;
            return 0;
        }
        if (n < 0 || n > LAST_NOTED || !isPlace(place) || world.notes >= MOST_NOTES) {
            return -2;
        }
        world.noteHours[world.notes] = n;
        world.notePlaces[world.notes] = place;
        world.notes++;
        return world.notes;
    }

    public int ruled(int what) {
        if (!world.valley.told || what < 0 || what > 1) {
            return -3;
        }
        looker.findRuled(ruleCount);
        return what == 0 ? looker.ruledCount : looker.ruledFirst;
    }

    public int look(int what) {
        if (!world.valley.told || what < 0 || what > 1) {
            return NONE;
        }
        looker.findRuled(ruleCount);
        if (looker.ruledCount == 0) {
            return WITHOUT;
        }
        looker.findParting();
        return what == 0 ? looker.partingHour : looker.partingMost;
    }

    public int seed(int x) {
        if (x < 0) {
            return NONE;
        }
        int was = world.drawn;
        world.drawn = x;
        return was;
    }

    public int sparks(int m, int n, int p, int what) {
        if (!isAsked(n, 1, 60) || m < 1 || m > 10) {
            return NONE;
        }
        if (p < 0 || p > 100 || what < 0 || what > 1) {
            return NONE;
        }
        asker.findSparks(m, n, p);
        return asker.found[what];
    }

    public int count(int what) {
        switch (what) {
            case 0:
                return world.valley.water;
            case 1:
                return world.valley.leap;
            case 2:
                return world.valley.houses;
            case 3:
                return ruleCount;
            case 4:
                return world.inForce;
            case 12:
                return world.notes;
            case 13:
                return actCount;
            case 14:
                return world.drawn;
            case 15:
                return tape.length;
            default:
                return world.scene.counted(what);
        }
    }

    public int image(int k) {
        if (k < 0 || k >= MOST_IMAGES) {
            return NONE;
        }
        if (images[k] == null) {
            images[k] = new World();
        }
        images[k].copyFrom(world);
        return world.scene.hour;
    }

    public int back(int k) {
        if (k < 0 || k >= MOST_IMAGES || images[k] == null) {
            return NONE;
        }
        world.copyFrom(images[k]);
        actCount = 0;
        return world.scene.hour;
    }

    private boolean isHouse(int house) {
        return house >= 0 && house < world.valley.houses;
    }

    // Without a valley there is no pump either, so no place at all.
    private boolean isPlace(int place) {
        return world.valley.told && place >= 0 && place <= world.valley.houses;
    }

    private boolean isAsked(int n, int least, int most) {
        return world.valley.told && n >= least && n <= most;
    }

    private void keepAct() {
        acts[actEnd].copyFrom(world.scene);
        actEnd = actEnd == MOST_ACTS - 1 ? 0 : actEnd + 1;
        if (actCount < MOST_ACTS) {
            actCount++;
        }
    }

    /** The bytes that were fed, and the tokens that they make: both languages are read from these. */
    private static final class Tape {
        final byte[] bytes = new byte[MOST_BYTES];
        int length;
        final int[] kinds = new int[MOST_BYTES + 1];
        final int[] places = new int[MOST_BYTES + 1];
        final int[] values = new int[MOST_BYTES + 1];
        int next;
        int fault;

        void append(int number) {
            if (length > MOST_BYTES - 4) {
                return;
            }
            bytes[length] = (byte) (number >> 24);
            bytes[length + 1] = (byte) (number >> 16);
            bytes[length + 2] = (byte) (number >> 8);
            bytes[length + 3] = (byte) number;
            length += 4;
        }

        /** Parts the bytes into tokens, the end being the last of them. */
        void scan() {
            int tokens = 0;
            int place = 0;
            while (place < length && tokens < MOST_BYTES) {
                if (bytes[place] == ' ') {
                    place++;
                    continue;
                }
                places[tokens] = place;
                place = scanToken(place, tokens);
                tokens++;
            }
            kinds[tokens] = END;
            places[tokens] = length;
            next = 0;
            fault = 0;
        }

        private int scanToken(int place, int token) {
            int sign = byteAt(place);
            if (isDigit(sign)) {
                return scanNumber(place, token);
            }
            if (isSmall(sign)) {
                int end = place;
                while (end < length && isSmall(bytes[end])) {
                    end++;
                }
                kinds[token] = wordFrom(place, end);
                return end;
            }
            if ((sign == '<' || sign == '>') && byteAt(place + 1) == '=') {
                kinds[token] = sign == '<' ? UP_TO : FROM;
                return place + 2;
            }
            kinds[token] = sign;
            return place + 1;
        }

        private int scanNumber(int place, int token) {
            int value = 0;
            int end = place;
            while (end < length && isDigit(bytes[end])) {
                // With more digits than may be, its value no longer counts, so it must not go round.
                value = end - place < 5 ? value * 10 + bytes[end] - '0' : TOO_LONG;
                end++;
            }
            kinds[token] = NUMBER;
            values[token] = value;
            return end;
        }

        private int wordFrom(int start, int end) {
            if (is(start, end, "house")) {
                return WORDS + OP_HOUSE;
            }
            if (is(start, end, "says")) {
                return WORDS + OP_SAYS;
            }
            if (is(start, end, "worth")) {
                return WORDS + OP_WORTH;
            }
            if (is(start, end, "smoke")) {
                return WORDS + OP_SMOKE;
            }
            if (is(start, end, "far")) {
                return WORDS + OP_FAR;
            }
            if (is(start, end, "near")) {
                return WORDS + OP_NEAR;
            }
            if (is(start, end, "fires")) {
                return WORDS + OP_FIRES;
            }
            if (is(start, end, "lost")) {
                return WORDS + OP_LOST;
            }
            if (is(start, end, "been")) {
                return WORDS + OP_BEEN;
            }
            if (is(start, end, "water")) {
                return WORDS + OP_WATER;
            }
            return is(start, end, "hour") ? WORDS + OP_HOUR : otherWordFrom(start, end);
        }

        private int otherWordFrom(int start, int end) {
            if (is(start, end, "valley")) {
                return VALLEY;
            }
            if (is(start, end, "road")) {
                return ROAD;
            }
            if (is(start, end, "beside")) {
                return BESIDE;
            }
            if (is(start, end, "go")) {
                return GO;
            }
            if (is(start, end, "if")) {
                return IF;
            }
            if (is(start, end, "or")) {
                return OR;
            }
            if (is(start, end, "and")) {
                return AND;
            }
            return is(start, end, "not") ? NOT : UNKNOWN;
        }

        private boolean is(int start, int end, String word) {
            if (end - start != word.length()) {
                return false;
            }
            for (int i = 0; i < word.length(); i++) {
                if (byteAt(start + i) != word.charAt(i)) {
                    return false;
                }
            }
            return true;
        }

        private int byteAt(int where) {
            return where >= 0 && where < length ? bytes[where] & 255 : END;
        }

        int kind() {
            return kinds[next];
        }

        /** Goes on behind the next token; nothing stands behind the end. */
        void pass() {
            if (kinds[next] != END) {
                next++;
            }
        }

        boolean refuse(int kind) {
            fault = 1 + 8 * places[next] + kind;
            return false;
        }

        /** The number that comes next, other than one told ahead of it, or NONE with its fault told. */
        int number(int least, int most, int told) {
            if (kinds[next] != NUMBER) {
                refuse(FAULT_STANDS);
                return NONE;
            }
            int value = values[next];
            if (value < least || value > most || value == told) {
                refuse(FAULT_NUMBER);
                return NONE;
            }
            next++;
            return value;
        }

        private static boolean isDigit(int b) {
            return b >= '0' && b <= '9';
        }

        private static boolean isSmall(int b) {
            return b >= 'a' && b <= 'z';
        }
    }

    /** What the text told: it never changes while the hours go by. */
    private static final class Valley {
        boolean told;
        int water;
        int leap;
        int houses;
        final int[] worth = new int[MOST_HOUSES];
        final int[] heat = new int[MOST_HOUSES];
        final int[] says = new int[MOST_HOUSES];
        final int[] beside = new int[MOST_HOUSES];
        final int[] ways = new int[MOST_PLACES * MOST_PLACES];

        void wipe() {
            told = false;
            water = 0;
            leap = 0;
            houses = 0;
            for (int house = 0; house < MOST_HOUSES; house++) {
                worth[house] = 0;
                heat[house] = 0;
                says[house] = 0;
                beside[house] = 0;
            }
            for (int way = 0; way < ways.length; way++) {
                ways[way] = NO_WAY;
            }
        }

        void copyFrom(Valley other) {
            told = other.told;
            water = other.water;
            leap = other.leap;
            houses = other.houses;
            System.arraycopy(other.worth, 0, worth, 0, MOST_HOUSES);
            System.arraycopy(other.heat, 0, heat, 0, MOST_HOUSES);
            System.arraycopy(other.says, 0, says, 0, MOST_HOUSES);
            System.arraycopy(other.beside, 0, beside, 0, MOST_HOUSES);
            System.arraycopy(other.ways, 0, ways, 0, ways.length);
        }

        void addRoad(int one, int other, int hours) {
            ways[one * MOST_PLACES + other] = hours;
            ways[other * MOST_PLACES + one] = hours;
        }

        void addBeside(int one, int other) {
            beside[one] |= 1 << other;
            beside[other] |= 1 << one;
        }

        /** Turns the roads into the shortest ways. */
        void findWays() {
            for (int place = 0; place < MOST_PLACES; place++) {
                ways[place * MOST_PLACES + place] = 0;
            }
            for (int by = 0; by < MOST_PLACES; by++) {
                for (int from = 0; from < MOST_PLACES; from++) {
                    for (int to = 0; to < MOST_PLACES; to++) {
                        shorten(from, by, to);
                    }
                }
            }
        }

        private void shorten(int from, int by, int to) {
            int here = ways[from * MOST_PLACES + by];
            int there = ways[by * MOST_PLACES + to];
            int straight = ways[from * MOST_PLACES + to];
            if (here == NO_WAY || there == NO_WAY) {
                return;
            }
            if (straight == NO_WAY || here + there < straight) {
                ways[from * MOST_PLACES + to] = here + there;
            }
        }
    }

    /** Reads a valley apart from the one there is, so that a fault leaves that as it was. */
    private static final class ValleyReader {
        private static final int MOST_CLAUSES = 40;

        private final Tape tape;
        final Valley valley = new Valley();

        ValleyReader(Tape tape) {
            this.tape = tape;
        }

        boolean read() {
            tape.scan();
            valley.wipe();
            for (int clause = 0; clause <= MOST_CLAUSES; clause++) {
                if (!readClause(clause)) {
                    return false;
                }
                if (tape.kind() == END) {
                    valley.told = true;
                    valley.findWays();
                    return true;
                }
                if (tape.kind() != ';') {
                    return tape.refuse(FAULT_STANDS);
                }
                tape.pass();
            }
            return tape.refuse(FAULT_CLAUSE);
        }

        private boolean readClause(int clause) {
            int kind = tape.kind();
            boolean isHouse = kind == WORDS + OP_HOUSE;
            if (kind != VALLEY && !isHouse && kind != ROAD && kind != BESIDE) {
                return tape.refuse(FAULT_STANDS);
            }
            if (clause >= MOST_CLAUSES || (kind == VALLEY) != (clause == 0)) {
                return tape.refuse(FAULT_CLAUSE);
            }
            if (isHouse && valley.houses >= MOST_HOUSES) {
                return tape.refuse(FAULT_CLAUSE);
            }
            tape.pass();
            if (isHouse) {
                return readHouse();
            }
            if (kind == VALLEY) {
                return readHead();
            }
            return kind == ROAD ? readRoad() : readBeside();
        }

        private boolean readHead() {
            valley.water = tape.number(0, 9, NONE);
            if (valley.water == NONE) {
                return false;
            }
            valley.leap = tape.number(1, 9, NONE);
            return valley.leap != NONE;
        }

        private boolean readHouse() {
            int worth = tape.number(0, 99, NONE);
            int heat = worth == NONE ? NONE : tape.number(0, 9, NONE);
            int says = heat == NONE ? NONE : tape.number(0, MOST_SAID, NONE);
            if (says == NONE) {
                return false;
            }
            int house = valley.houses;
            valley.worth[house] = worth;
            valley.heat[house] = worth == 0 ? 0 : heat;
            valley.says[house] = says;
            valley.houses++;
            return true;
        }

        private boolean readRoad() {
            int one = tape.number(0, valley.houses, NONE);
            int other = one == NONE ? NONE : tape.number(0, valley.houses, one);
            int hours = other == NONE ? NONE : tape.number(1, 9, NONE);
            if (hours == NONE) {
                return false;
            }
            valley.addRoad(one, other, hours);
            return true;
        }

        private boolean readBeside() {
            int one = tape.number(0, valley.houses - 1, NONE);
            int other = one == NONE ? NONE : tape.number(0, valley.houses - 1, one);
            if (other == NONE) {
                return false;
            }
            valley.addBeside(one, other);
            return true;
        }
    }

    /** A rule as a row of operations, values ahead of what joins them. */
    private static final class Rule {
        final int[] code;
        /** Of clause k: its sum begins at 2k, its test at 2k + 1 and ends at 2k + 2. */
        final int[] starts;
        final int clauses;

        Rule(int[] code, int[] starts, int clauses) {
            this.code = code;
            this.starts = starts;
            this.clauses = clauses;
        }
    }

    private static final class RuleReader {
        private static final int MOST_CLAUSES = 12;
        private static final int MOST_DEPTH = 10;
        private static final int MOST_PARTS = 60;

        private final Tape tape;
        // Each operation takes a byte of the text at least.
        private final int[] code = new int[MOST_BYTES];
        private int codeLength;
        private final int[] starts = new int[2 * MOST_CLAUSES + 1];
        private int clauses;
        private int parts;

        RuleReader(Tape tape) {
            this.tape = tape;
        }

        boolean read() {
            tape.scan();
            codeLength = 0;
            parts = 0;
            for (int clause = 0; clause < MOST_CLAUSES; clause++) {
                if (!readGo(clause) || passIf() && !readTest(0)) {
                    return false;
                }
                starts[2 * clause + 2] = codeLength;
                clauses = clause + 1;
                if (tape.kind() == END) {
                    return true;
                }
                if (tape.kind() != ';') {
                    return tape.refuse(FAULT_STANDS);
                }
                tape.pass();
            }
            return tape.refuse(tape.kind() == GO ? FAULT_CLAUSE : FAULT_STANDS);
        }

        Rule compiled() {
            return new Rule(Arrays.copyOf(code, codeLength), Arrays.copyOf(starts, 2 * clauses + 1), clauses);
        }

        private boolean readGo(int clause) {
            if (tape.kind() != GO) {
                return tape.refuse(FAULT_STANDS);
            }
            tape.pass();
            starts[2 * clause] = codeLength;
            if (!readSum()) {
                return false;
            }
            starts[2 * clause + 1] = codeLength;
            return true;
        }

        private boolean passIf() {
            if (tape.kind() != IF) {
                return false;
            }
            tape.pass();
            return true;
        }

        // An 'or' waits until the part behind it is whole, since 'and' binds closer.
        private boolean readTest(int depth) {
            boolean orWaits = false;
            if (!readFact(depth)) {
                return false;
            }
            for (int i = 0; i < MOST_BYTES; i++) {
                int kind = tape.kind();
                if (kind != AND && orWaits) {
                    emit(OP_OR);
                    orWaits = false;
                }
                if (kind != AND && kind != OR) {
                    return true;
                }
                tape.pass();
                if (!readFact(depth)) {
                    return false;
                }
                if (kind == AND) {
                    emit(OP_AND);
                } else {
                    orWaits = true;
                }
            }
            return true;
        }

        private boolean readFact(int depth) {
            int kind = tape.kind();
            if (kind != NOT && kind != '[') {
                return readComparison();
            }
            if (depth >= MOST_DEPTH) {
                return tape.refuse(FAULT_DEEP);
            }
            tape.pass();
            if (kind == NOT) {
                if (!readFact(depth + 1)) {
                    return false;
                }
                emit(OP_NOT);
                return true;
            }
            if (!readTest(depth + 1)) {
                return false;
            }
            if (tape.kind() != ']') {
                return tape.refuse(FAULT_STANDS);
            }
            tape.pass();
            return true;
        }

        private boolean readComparison() {
            if (!readSum()) {
                return false;
            }
            int op = signOf(tape.kind());
            if (op == NONE) {
                return tape.refuse(FAULT_STANDS);
            }
            if (parts >= MOST_PARTS) {
                return tape.refuse(FAULT_PARTS);
            }
            parts++;
            tape.pass();
            if (!readSum()) {
                return false;
            }
            emit(op);
            return true;
        }

        private static int signOf(int kind) {
            switch (kind) {
                case '<':
                    return OP_LESS;
                case UP_TO:
                    return OP_UP_TO;
                case '=':
                    return OP_SAME;
                case FROM:
                    return OP_FROM;
                case '>':
                    return OP_MORE;
                default:
                    return NONE;
            }
        }

        // A + or - waits until the term behind it is whole, since * / % bind closer.
        private boolean readSum() {
            int waits = NONE;
            if (!readValue()) {
                return false;
            }
            for (int i = 0; i < MOST_BYTES; i++) {
                int op = joinOf(tape.kind());
                boolean binds = op == OP_TIMES || op == OP_PART || op == OP_REST;
                if (!binds && waits != NONE) {
                    emit(waits);
                    waits = NONE;
                }
                if (op == NONE) {
                    return true;
                }
                tape.pass();
                if (!readValue()) {
                    return false;
                }
                if (binds) {
                    emit(op);
                } else {
                    waits = op;
                }
            }
            return true;
        }

        private static int joinOf(int sign) {
            switch (sign) {
                case '+':
                    return OP_ADD;
                case '-':
                    return OP_TAKE;
                case '*':
                    return OP_TIMES;
                case '/':
                    return OP_PART;
                case '%':
                    return OP_REST;
                default:
                    return NONE;
            }
        }

        private boolean readValue() {
            int kind = tape.kind();
            if (kind == NUMBER) {
                int value = tape.values[tape.next];
                if (value == TOO_LONG) {
                    return tape.refuse(FAULT_NUMBER);
                }
                emit(value << OP_BITS | OP_NUMBER);
            } else if (kind >= WORDS && kind <= WORDS + OP_HOUR) {
                emit(kind - WORDS);
            } else {
                return tape.refuse(FAULT_STANDS);
            }
            if (parts >= MOST_PARTS) {
                return tape.refuse(FAULT_PARTS);
            }
            parts++;
            tape.pass();
            return true;
        }

        private void emit(int operation) {
            if (codeLength < code.length) {
                code[codeLength] = operation;
                codeLength++;
            }
        }
    }

    /** What the hours and the acts change. */
    private static final class Scene {
        final int[] worth = new int[MOST_HOUSES];
        final int[] heat = new int[MOST_HOUSES];
        final int[] says = new int[MOST_HOUSES];
        final int[] been = new int[MOST_HOUSES];
        int lost;
        int hour;
        int at;
        int to = NONE;
        int toGo;

        void copyFrom(Scene other) {
            System.arraycopy(other.worth, 0, worth, 0, MOST_HOUSES);
            System.arraycopy(other.heat, 0, heat, 0, MOST_HOUSES);
            System.arraycopy(other.says, 0, says, 0, MOST_HOUSES);
            System.arraycopy(other.been, 0, been, 0, MOST_HOUSES);
            lost = other.lost;
            hour = other.hour;
            at = other.at;
            to = other.to;
            toGo = other.toGo;
        }

        void startOf(Valley valley) {
            System.arraycopy(valley.worth, 0, worth, 0, MOST_HOUSES);
            System.arraycopy(valley.heat, 0, heat, 0, MOST_HOUSES);
            System.arraycopy(valley.says, 0, says, 0, MOST_HOUSES);
            for (int house = 0; house < MOST_HOUSES; house++) {
                been[house] = 0;
            }
            lost = 0;
            hour = 0;
            at = 0;
            to = NONE;
            toGo = 0;
        }

        int fires() {
            int bits = 0;
            for (int house = 0; house < MOST_HOUSES; house++) {
                if (heat[house] > 0) {
                    bits |= 1 << house;
                }
            }
            return bits;
        }

        int allWorth() {
            int all = 0;
            for (int house = 0; house < MOST_HOUSES; house++) {
                all += worth[house];
            }
            return all;
        }

        boolean canCatch(int house) {
            return worth[house] > 0 && heat[house] == 0;
        }

        /** Whether the brigade is to be told where to go. */
        boolean isFree() {
            return to == NONE && (at <= 0 || at > MOST_HOUSES || heat[at - 1] == 0);
        }

        void setOut(int place, int hours) {
            to = place;
            toGo = hours;
        }

        int counted(int what) {
            switch (what) {
                case 5:
                    return hour;
                case 6:
                    return at;
                case 7:
                    return to;
                case 8:
                    return toGo;
                case 9:
                    return fires();
                case 10:
                    return allWorth();
                case 11:
                    return lost;
                default:
                    return NONE;
            }
        }
    }

    /** All that an image keeps. */
    private static final class World {
        final Valley valley = new Valley();
        final Scene scene = new Scene();
        final int[] noteHours = new int[MOST_NOTES];
        final int[] notePlaces = new int[MOST_NOTES];
        int notes;
        int drawn;
        int inForce = NONE;

        void copyFrom(World other) {
            valley.copyFrom(other.valley);
            scene.copyFrom(other.scene);
            System.arraycopy(other.noteHours, 0, noteHours, 0, MOST_NOTES);
            System.arraycopy(other.notePlaces, 0, notePlaces, 0, MOST_NOTES);
            notes = other.notes;
            drawn = other.drawn;
            inForce = other.inForce;
        }
    }

    /** Lets hours go by on a scene of its own, so that asking changes nothing. */
    private static final class Course {
        // A test holds two values for each of its 11 levels at most, and a sum three.
        private static final int STACK = 64;

        private final World world;
        private final Valley valley;
        private final Rule[] rules;
        final Scene scene = new Scene();
        private final long[] stack = new long[STACK];
        private Rule rule;
        private int fires;
        /** How many houses burn, and how many of these are beside the house that is weighed: words of a rule. */
        private int burning;
        private int near;
        int water;
        /** The house to which the brigade came in the last hour, or NONE. */
        int came = NONE;

        Course(World world, Rule[] rules) {
            this.world = world;
            this.valley = world.valley;
            this.rules = rules;
        }

        void beginNow() {
            scene.copyFrom(world.scene);
            water = valley.water;
            chooseRule(world.inForce);
        }

        void beginAsTold(int number) {
            scene.startOf(valley);
            water = valley.water;
            chooseRule(number);
        }

        private void chooseRule(int number) {
            rule = number >= 0 && number < rules.length ? rules[number] : null;
        }

        void goHours(int n) {
            for (int i = 0; i < n; i++) {
                goOneHour();
            }
        }

        /** The worth that n hours leave: without fires none is lost, so these need not be gone through. */
        int worthAfter(int n) {
            for (int i = 0; i < n && scene.fires() != 0; i++) {
                goOneHour();
            }
            return scene.allWorth();
        }

        int goOneHour() {
            if (scene.isFree()) {
                choose();
            }
            return passHour();
        }

        private void choose() {
            int best = NONE;
            long most = 0;
            fires = scene.fires();
            burning = Integer.bitCount(fires);
            for (int house = 0; house < valley.houses; house++) {
                if (wayTo(house) == NO_WAY) {
                    continue;
                }
                long sum = rule == null ? smokeOf(house) : weigh(house);
                if (sum > most) {
                    most = sum;
                    best = house;
                }
            }
            if (best != NONE) {
                sendTo(best);
            }
        }

        int wayTo(int house) {
            return valley.ways[scene.at * MOST_PLACES + house + 1];
        }

        void sendTo(int house) {
            int hours = wayTo(house);
            if (hours > 0) {
                scene.setOut(house + 1, hours);
            }
        }

        private int smokeOf(int house) {
            return scene.heat[house] > 0 ? scene.says[house] : 0;
        }

        private long weigh(int house) {
            near = Integer.bitCount(valley.beside[house] & fires);
            for (int clause = 0; clause < rule.clauses; clause++) {
                int sum = rule.starts[2 * clause];
                int test = rule.starts[2 * clause + 1];
                int end = rule.starts[2 * clause + 2];
                if (test == end || work(test, end, house) != 0) {
                    return work(sum, test, house);
                }
            }
            return 0;
        }

        private long work(int from, int to, int house) {
            int top = 0;
            for (int i = from; i < to && i < rule.code.length; i++) {
                int op = rule.code[i] & (1 << OP_BITS) - 1;
                if (op < OP_NOT) {
                    if (top < STACK) {
                        stack[top] = op == OP_NUMBER ? rule.code[i] >> OP_BITS : wordOf(op, house);
                        top++;
                    }
                } else if (op == OP_NOT) {
                    if (top > 0) {
                        stack[top - 1] = 1 - stack[top - 1];
                    }
                } else if (top > 1) {
                    top--;
                    stack[top - 1] = join(op, stack[top - 1], stack[top]);
                }
            }
            return top > 0 ? stack[0] : 0;
        }

        private int wordOf(int op, int house) {
            switch (op) {
                case OP_HOUSE:
                    return house;
                case OP_SAYS:
                    return scene.says[house];
                case OP_WORTH:
                    return scene.worth[house];
                case OP_SMOKE:
                    return fires >> house & 1;
                case OP_FAR:
                    return valley.ways[scene.at * MOST_PLACES + house + 1];
                case OP_NEAR:
                    return near;
                case OP_FIRES:
                    return burning;
                case OP_LOST:
                    return scene.lost;
                case OP_BEEN:
                    return scene.been[house];
                case OP_WATER:
                    return water;
                default:
                    return scene.hour;
            }
        }

        private static long join(int op, long a, long b) {
            switch (op) {
                case OP_ADD:
                    return a + b;
                case OP_TAKE:
                    return a - b;
                case OP_TIMES:
                    return a * b;
                case OP_PART:
                    return b == 0 ? 0 : a / b;
                case OP_REST:
                    return b == 0 ? 0 : a % b;
                case OP_LESS:
                    return a < b ? 1 : 0;
                case OP_UP_TO:
                    return a <= b ? 1 : 0;
                case OP_SAME:
                    return a == b ? 1 : 0;
                case OP_FROM:
                    return a >= b ? 1 : 0;
                case OP_MORE:
                    return a > b ? 1 : 0;
                case OP_AND:
                    return a & b;
                default:
                    return a | b;
            }
        }

        /** The rest of an hour, once the brigade has been told where to go: the worth lost. */
        int passHour() {
            travel();
            pour();
            int lost = burn();
            spread();
            scene.lost += lost;
            scene.hour++;
            return lost;
        }

        private void travel() {
            if (scene.to == NONE) {
                return;
            }
            scene.toGo--;
            if (scene.toGo <= 0) {
                scene.at = scene.to;
                scene.setOut(NONE, 0);
            }
        }

        private void pour() {
            came = NONE;
            if (scene.to != NONE || scene.at <= 0 || scene.at > MOST_HOUSES) {
                return;
            }
            int house = scene.at - 1;
            scene.been[house]++;
            if (scene.heat[house] > 0) {
                came = house;
                scene.heat[house] = Math.max(0, scene.heat[house] - water);
            }
        }

        private int burn() {
            int lost = 0;
            for (int house = 0; house < valley.houses; house++) {
                int loss = Math.min(scene.heat[house], scene.worth[house]);
                scene.worth[house] -= loss;
                lost += loss;
            }
            return lost;
        }

        private void spread() {
            int leaping = 0;
            for (int house = 0; house < valley.houses; house++) {
                if (scene.heat[house] >= valley.leap && scene.worth[house] > 0) {
                    leaping |= 1 << house;
                }
            }
            for (int house = 0; house < valley.houses; house++) {
                int heat = scene.heat[house];
                if (scene.worth[house] == 0) {
                    scene.heat[house] = 0;
                } else if (heat > 0) {
                    scene.heat[house] = Math.min(9, heat + 1);
                } else if ((valley.beside[house] & leaping) != 0) {
                    scene.heat[house] = 1;
                }
            }
        }
    }

    /** The best order to go round: the rows are tried in their order, and what several begin with is gone through once. */
    private static final class Orders {
        private final Course course;
        private final Scene[] levels = new Scene[MOST_HOUSES + 1];
        private final int[] row = new int[MOST_HOUSES];
        final int[] best = new int[MOST_HOUSES];
        int rowLength;
        int most;
        private int lastHour;

        Orders(Course course) {
            this.course = course;
            for (int i = 0; i <= MOST_HOUSES; i++) {
                levels[i] = new Scene();
            }
        }

        void findBest(int n) {
            course.beginNow();
            int fires = course.scene.fires();
            rowLength = Integer.bitCount(fires);
            lastHour = course.scene.hour + n;
            most = NONE;
            passUntilFree();
            levels[0].copyFrom(course.scene);
            tryRows(0, fires);
        }

        // Worth is never won, so a begin that has no more left than the best row needs no end.
        private void tryRows(int depth, int unsent) {
            Scene scene = levels[depth];
            if (scene.allWorth() <= most) {
                return;
            }
            if (unsent == 0 || depth >= MOST_HOUSES || scene.hour >= lastHour || scene.fires() == 0) {
                course.scene.copyFrom(scene);
                passAll();
                keep(depth, unsent);
                return;
            }
            for (int house = 0; house < MOST_HOUSES; house++) {
                if ((unsent >> house & 1) == 0) {
                    continue;
                }
                row[depth] = house;
                course.scene.copyFrom(scene);
                if (course.wayTo(house) != NO_WAY) {
                    course.sendTo(house);
                    course.passHour();
                    passUntilFree();
                }
                levels[depth + 1].copyFrom(course.scene);
                tryRows(depth + 1, unsent & ~(1 << house));
            }
        }

        private void passUntilFree() {
            for (int hour = course.scene.hour; hour < lastHour && !course.scene.isFree(); hour++) {
                course.passHour();
            }
        }

        private void passAll() {
            for (int hour = course.scene.hour; hour < lastHour && course.scene.fires() != 0; hour++) {
                course.passHour();
            }
        }

        private void keep(int depth, int unsent) {
            int worth = course.scene.allWorth();
            if (worth <= most) {
                return;
            }
            most = worth;
            int place = Math.min(depth, MOST_HOUSES);
            System.arraycopy(row, 0, best, 0, place);
            for (int house = 0; house < MOST_HOUSES; house++) {
                if ((unsent >> house & 1) != 0 && place < MOST_HOUSES) {
                    best[place] = house;
                    place++;
                }
            }
        }
    }

    /** What is asked of how it goes on from now; what has several parts stands in found. */
    private static final class Asker {
        private static final int CHOICES = 5;

        private final World world;
        private final Valley valley;
        private final Course course;
        final int[] found = new int[3];
        private final int[] ofOne = new int[CHOICES * CHOICES];
        private final int[] ofOther = new int[CHOICES * CHOICES];

        Asker(World world, Course course) {
            this.world = world;
            this.valley = world.valley;
            this.course = course;
        }

        int hourOut() {
            course.beginNow();
            for (int i = 0; i < 200; i++) {
                if (course.scene.fires() == 0) {
                    return course.scene.hour;
                }
                course.goOneHour();
            }
            return WITHOUT;
        }

        int housesThatCanBurn() {
            int bits = world.scene.fires();
            for (int round = 0; round < MOST_HOUSES; round++) {
                for (int house = 0; house < valley.houses; house++) {
                    if (world.scene.worth[house] > 0 && (valley.beside[house] & bits) != 0) {
                        bits |= 1 << house;
                    }
                }
            }
            return bits;
        }

        int leastHeard(int house) {
            for (int much = 0; much <= MOST_SAID; much++) {
                course.beginNow();
                course.scene.says[house] = much;
                if (comesTo(house)) {
                    return much;
                }
            }
            return WITHOUT;
        }

        private boolean comesTo(int house) {
            for (int i = 0; i < 20; i++) {
                course.goOneHour();
                if (course.came == house) {
                    return true;
                }
            }
            return false;
        }

        int leastWater(int n) {
            for (int water = 0; water <= 9; water++) {
                course.beginNow();
                course.water = water;
                course.worthAfter(n);
                if (allKeepWorth()) {
                    return water;
                }
            }
            return WITHOUT;
        }

        private boolean allKeepWorth() {
            for (int house = 0; house < valley.houses; house++) {
                if (world.scene.worth[house] > 0 && course.scene.worth[house] == 0) {
                    return false;
                }
            }
            return true;
        }

        void findCleared(int n) {
            found[0] = NONE;
            course.beginNow();
            found[1] = course.worthAfter(n);
            for (int house = 0; house < valley.houses; house++) {
                course.beginNow();
                int saved = course.scene.worth[house];
                course.scene.worth[house] = 0;
                course.scene.heat[house] = 0;
                int much = saved + course.worthAfter(n);
                if (much > found[1]) {
                    found[0] = house;
                    found[1] = much;
                }
            }
        }

        void findSilent(int n) {
            int sets = 1 << valley.houses;
            found[0] = 0;
            found[1] = 0;
            found[2] = NONE;
            for (int set = 0; set < sets; set++) {
                course.beginNow();
                if (!hush(set)) {
                    continue;
                }
                int worth = course.worthAfter(n);
                int size = Integer.bitCount(set);
                if (worth > found[2] || worth == found[2] && size < found[0]) {
                    found[0] = size;
                    found[1] = set;
                    found[2] = worth;
                }
            }
        }

        // A set with a house that says nothing anyway does no more than a smaller one.
        private boolean hush(int set) {
            for (int house = 0; house < valley.houses; house++) {
                if ((set >> house & 1) != 0) {
                    if (course.scene.says[house] == 0) {
                        return false;
                    }
                    course.scene.says[house] = 0;
                }
            }
            return true;
        }

        int penceOf(int much, int house) {
            int all = world.scene.lost;
            if (all <= 0) {
                return 0;
            }
            int over = much;
            int ahead = 0;
            int rest = much * lostOf(house) % all;
            for (int other = 0; other < valley.houses; other++) {
                int share = much * lostOf(other);
                over -= share / all;
                if (share % all > rest || share % all == rest && other < house) {
                    ahead++;
                }
            }
            return much * lostOf(house) / all + (ahead < over ? 1 : 0);
        }

        private int lostOf(int house) {
            return valley.worth[house] - world.scene.worth[house];
        }

        void findRests(int one, int other, int n) {
            for (int two = 0; two < ofOne.length; two++) {
                course.beginNow();
                course.scene.says[one] = two / CHOICES * 5;
                course.scene.says[other] = two % CHOICES * 5;
                course.worthAfter(n);
                ofOne[two] = course.scene.worth[one] - two / CHOICES;
                ofOther[two] = course.scene.worth[other] - two % CHOICES;
            }
            found[0] = 0;
            found[1] = WITHOUT;
            found[2] = WITHOUT;
            for (int two = 0; two < ofOne.length; two++) {
                if (!isRest(two)) {
                    continue;
                }
                if (found[0] == 0) {
                    found[1] = two / CHOICES * 5;
                    found[2] = two % CHOICES * 5;
                }
                found[0]++;
            }
        }

        private boolean isRest(int two) {
            int first = two / CHOICES * CHOICES;
            int second = two % CHOICES;
            for (int i = 0; i < CHOICES; i++) {
                if (ofOne[i * CHOICES + second] > ofOne[two] || ofOther[first + i] > ofOther[two]) {
                    return false;
                }
            }
            return true;
        }

        void findFirst() {
            found[0] = WITHOUT;
            found[1] = WITHOUT;
            course.beginNow();
            for (int i = 0; i < 60; i++) {
                int hour = course.scene.hour;
                course.goOneHour();
                if (course.came != NONE) {
                    found[0] = course.came;
                    found[1] = hour;
                    return;
                }
            }
        }

        void findSparks(int times, int n, int chance) {
            int drawn = world.drawn;
            found[0] = 0;
            found[1] = 0;
            for (int time = 0; time < times; time++) {
                course.beginNow();
                for (int i = 0; i < n; i++) {
                    drawn = drawAfter(drawn);
                    if (drawn / 65536 % 100 < chance && valley.houses > 0) {
                        drawn = drawAfter(drawn);
                        spark(drawn / 65536 % valley.houses);
                    }
                    course.goOneHour();
                }
                found[0] += course.scene.allWorth();
                found[1] += Integer.bitCount(course.scene.fires());
            }
        }

        private static int drawAfter(int drawn) {
            return (int) (drawn * 1103515245L + 12345L & 2147483647L);
        }

        private void spark(int house) {
            if (course.scene.canCatch(house)) {
                course.scene.heat[house] = 1;
            }
        }
    }

    /** By which rule the days that were noted were, and where to look next. Candidate 0 is no rule, k is rule k - 1. */
    private static final class Looker {
        private static final int HOURS = LAST_NOTED + 1;

        private final World world;
        private final Course course;
        private final int[] places = new int[(MOST_RULES + 1) * HOURS];
        private final int[] alike = new int[MOST_PLACES];
        private int candidates;
        private int ruledBits;
        int ruledCount;
        int ruledFirst;
        int partingHour;
        int partingMost;

        Looker(World world, Course course) {
            this.world = world;
            this.course = course;
        }

        void findRuled(int rules) {
            candidates = rules + 1;
            ruledBits = 0;
            ruledCount = 0;
            ruledFirst = WITHOUT;
            for (int candidate = 0; candidate < candidates; candidate++) {
                trace(candidate);
                if (!agrees(candidate)) {
                    continue;
                }
                if (ruledCount == 0) {
                    ruledFirst = candidate - 1;
                }
                ruledBits |= 1 << candidate;
                ruledCount++;
            }
        }

        private void trace(int candidate) {
            course.beginAsTold(candidate - 1);
            for (int hour = 0; hour < HOURS; hour++) {
                places[candidate * HOURS + hour] = course.scene.at;
                course.goOneHour();
            }
        }

        private boolean agrees(int candidate) {
            for (int i = 0; i < world.notes; i++) {
                if (places[candidate * HOURS + world.noteHours[i]] != world.notePlaces[i]) {
                    return false;
                }
            }
            return true;
        }

        void findParting() {
            partingHour = 0;
            partingMost = MOST_RULES + 2;
            for (int hour = 0; hour < HOURS; hour++) {
                int most = mostAlike(hour);
                if (most < partingMost) {
                    partingMost = most;
                    partingHour = hour;
                }
            }
        }

        private int mostAlike(int hour) {
            int most = 0;
            for (int place = 0; place < MOST_PLACES; place++) {
                alike[place] = 0;
            }
            for (int candidate = 0; candidate < candidates; candidate++) {
                if ((ruledBits >> candidate & 1) != 0) {
                    int place = places[candidate * HOURS + hour];
                    alike[place]++;
                    most = Math.max(most, alike[place]);
                }
            }
            return most;
        }
    }
}
