import java.util.Arrays;
import java.util.NoSuchElementException;

/** A watch on a volcano: readings, alert rules, lava, works, people led out, ash. */
public final class VolcanoWatch {
    public static final int NONE = -1;

    private static final int HOUR_COUNT = 100;
    private static final int WIND_HOURS = 124;
    private static final int MAX_WORLDS = 3;
    private static final int MAX_LASTING = 12;
    private static final int MAX_MORE_WORKS = 2;
    private static final int TAPE_TOO_SHORT = -2;
    private static final int NO_SUCH_READING = -20000;
    private static final int NO_SUCH_LAVA = -1000;
    /** By DIRECTION: how x changes in one step. */
    private static final int[] STEP_X = {1, 1, 0, -1, -1, -1, 0, 1};
    /** By DIRECTION: how y changes in one step. */
    private static final int[] STEP_Y = {0, 1, 1, 1, 0, -1, -1, -1};

    private int now;
    private final RuleReader reader = new RuleReader();
    private RuleBook book = new RuleBook();
    private RuleBook draft = new RuleBook();
    private final Readings readings = new Readings();
    private final int[] raws = new int[HOUR_COUNT];
    private int rawsKnown;
    private boolean warningsNoted;
    private final Land land = new Land();
    private final World[] worlds = new World[MAX_WORLDS];
    private final Forecast[] forecasts = new Forecast[MAX_WORLDS];
    private int worldCount;
    private final Forecast trial = new Forecast();
    private final Places places = new Places();
    private final Network network = new Network();
    private final Plan[] plans = new Plan[MAX_MORE_WORKS + 1];
    private final int[] windDirections = new int[WIND_HOURS];
    private final int[] windSpeeds = new int[WIND_HOURS];

    public VolcanoWatch() {
        for (int i = 0; i < MAX_WORLDS; i++) {
            worlds[i] = new World();
            forecasts[i] = new Forecast();
        }
        for (int i = 0; i <= MAX_MORE_WORKS; i++) {
            plans[i] = new Plan();
        }
    }

    // ---- the tape and the rules

    public int feed(int a, int b, int c, int d, int e) {
        Tape tape = reader.tape;
        if (!tape.hasSpace(20)) {
            return NONE;
        }
        tape.append(a);
        tape.append(b);
        tape.append(c);
        tape.append(d);
        tape.append(e);
        return tape.size;
    }

    public int rules(int n) {
        if (n < 0 || n > reader.tape.size) {
            return TAPE_TOO_SHORT;
        }
        int lines = reader.readBook(n, draft);
        if (lines == NONE) {
            return NONE;
        }
        RuleBook former = book;
        book = draft;
        draft = former;
        alertsChanged(0);
        return lines;
    }

    public int fault(int what) {
        switch (what) {
            case 0: return reader.faultKind;
            case 1: return reader.faultPlace;
            default: return NONE;
        }
    }

    // ---- hours, posts, readings and alerts

    public int hours(int n) {
        if (!within(n, 0, HOUR_COUNT - 1) || now + n >= HOUR_COUNT) {
            return NONE;
        }
        now += n;
        return now;
    }

    public int post(int kind) {
        int number = readings.addPost(kind);
        if (number != NONE) {
            alertsChanged(0);
        }
        return number;
    }

    public int read(int post, int hour, int v, boolean gone) {
        if (!within(hour, 0, now)) {
            return NONE;
        }
        int told = readings.tell(post, hour, now, v, gone);
        if (told != NONE) {
            // What is told now is not known in any earlier hour.
            alertsChanged(now);
        }
        return told;
    }

    public int reading(int post, int hour, int k) {
        if (!readings.hasPost(post) || !isHour(hour) || !isHour(k)) {
            return NO_SUCH_READING;
        }
        return readings.known(post, hour, k);
    }

    public int raw(int hour, int k) {
        if (!isHour(hour) || !isHour(k)) {
            return NONE;
        }
        return book.greatestLevel(readings, hour, k);
    }

    public long tries(int i, int hour, int k) {
        if (!within(i, 0, book.levelLines - 1) || !isHour(hour) || !isHour(k)) {
            return RuleBook.NO_VALUE;
        }
        return book.value(i, readings, hour, k);
    }

    public int level(int hour) {
        if (!isHour(hour)) {
            return NONE;
        }
        int greatest = 0;
        for (int h = Math.max(0, hour - book.keep); h <= hour; h++) {
            greatest = Math.max(greatest, rawInOwnHour(h));
        }
        return greatest;
    }

    // ---- land, works, worlds and lava

    public boolean land(int w, int h) {
        if (!land.lay(w, h)) {
            return false;
        }
        worldCount = 0;
        places.clear();
        lavaChanged();
        return true;
    }

    public boolean ground(int cell, int height, int houses) {
        boolean done = land.build(cell, height, houses);
        if (done) {
            lavaChanged();
        }
        return done;
    }

    public boolean work(int cell, boolean trench, boolean on) {
        boolean may = on ? land.mayPut(cell, trench) : land.hasWork(cell, trench);
        if (may) {
            land.setWork(cell, trench, on);
            lavaChanged();
        }
        return may;
    }

    public int world(int start, int vent, int rate, int lasting, int weight) {
        if (worldCount >= MAX_WORLDS || !isHour(start) || !land.has(vent)) {
            return NONE;
        }
        if (!within(rate, 1, 99) || !within(lasting, 1, MAX_LASTING) || !within(weight, 1, 99)) {
            return NONE;
        }
        World made = worlds[worldCount];
        made.start = start;
        made.vent = vent;
        made.rate = rate;
        made.lasting = lasting;
        made.weight = weight;
        worldCount++;
        lavaChanged();
        return worldCount - 1;
    }

    public int lava(int world, int step, int cell, int what) {
        if (!isWorld(world) || !within(step, 0, Forecast.STEPS) || !land.has(cell) || !within(what, 0, 1)) {
            return NO_SUCH_LAVA;
        }
        Forecast forecast = steppedForecast(world);
        return what == 0 ? forecast.lavaBehind(step, cell) : forecast.groundBehind(step, cell);
    }

    public int reached(int world, int cell) {
        if (!isWorld(world) || !land.has(cell)) {
            return NONE;
        }
        return steppedForecast(world).reached[cell];
    }

    // ---- places, roads and who is led out

    public int town(int cell, int people, int threshold, int lag) {
        if (!land.has(cell) || !within(people, 1, 999) || !within(threshold, 1, 4) || !within(lag, 0, 5)) {
            return NONE;
        }
        escapeChanged();
        return places.addTown(cell, people, threshold, lag);
    }

    public int shelter(int room) {
        if (!within(room, 0, 9999)) {
            return NONE;
        }
        escapeChanged();
        return places.addShelter(room);
    }

    public int road(int from, int to, int hours, int capacity, int every, int cell) {
        if (!places.has(from) || !places.has(to) || from == to || (cell != NONE && !land.has(cell))) {
            return NONE;
        }
        if (!within(hours, 1, 5) || !within(capacity, 1, 999) || !within(every, 1, 6)) {
            return NONE;
        }
        escapeChanged();
        return places.addRoad(from, to, hours, capacity, every, cell);
    }

    public int warned(int place) {
        if (!places.isTown(place)) {
            return NONE;
        }
        noteWarnings();
        return places.warnedHours[place];
    }

    public int ledOut(int world, int what) {
        if (!isWorld(world) || !within(what, 0, 2)) {
            return NONE;
        }
        if (what == 2) {
            return steppedForecast(world).buried;
        }
        noteWarnings();
        int saved = ledForecast(world).saved;
        return what == 0 ? saved : places.allPeople() - saved;
    }

    public int cut(int world, int place, int hour) {
        if (!isWorld(world) || !places.has(place)) {
            return NONE;
        }
        World asked = worlds[world];
        if (!within(hour, asked.firstHour(), asked.lastHour())) {
            return NONE;
        }
        noteWarnings();
        return ledForecast(world).inCut[Network.node(place, hour - asked.firstHour())];
    }

    // ---- costs and the best works

    public int cost(int what) {
        if (!within(what, 0, 1)) {
            return NONE;
        }
        noteWarnings();
        return what == 0 ? lostCost() : buriedCost();
    }

    public int candidate(int cell) {
        int number = land.addCandidate(cell);
        if (number != NONE) {
            forgetPlans();
        }
        return number;
    }

    public int best(int m, int what) {
        if (!within(m, 0, MAX_MORE_WORKS) || !within(what, 0, 4)) {
            return NONE;
        }
        Plan plan = plans[m];
        if (!plan.known) {
            noteWarnings();
            plan.start(lostCost(), buriedCost());
            tryMoreWorks(plan, m);
        }
        return plan.part(what);
    }

    // ---- winds, ash and looks

    public boolean wind(int hour, int direction, int speed) {
        if (!within(hour, 0, WIND_HOURS - 1) || !within(direction, 0, 7) || !within(speed, 0, 7)) {
            return false;
        }
        windDirections[hour] = direction;
        windSpeeds[hour] = speed;
        return true;
    }

    public int ash(int world, int cell) {
        if (!isWorld(world) || !land.has(cell)) {
            return NONE;
        }
        World asked = worlds[world];
        int x = land.column(cell) - land.column(asked.vent);
        int y = land.row(cell) - land.row(asked.vent);
        int end = Math.min(asked.start + asked.lasting, WIND_HOURS);
        int sum = 0;
        for (int hour = asked.start; hour < end; hour++) {
            int steps = stepsDownwind(x, y, windDirections[hour]);
            if (steps != NONE && steps <= windSpeeds[hour]) {
                sum += asked.rate >> steps;
            }
        }
        return sum;
    }

    public int look(int cell, int what) throws IndexOutOfBoundsException, NoSuchElementException {
        if (!land.has(cell)) {
            throw new IndexOutOfBoundsException("no such cell");
        }
        switch (what) {
            case 0: return land.heights[cell];
            case 1: return land.houses[cell];
            case 2: return land.works[cell];
            default: throw new NoSuchElementException("no such what");
        }
    }

    public int count(int what) {
        switch (what) {
            case 0: return now;
            case 1: return readings.postCount;
            case 2: return readings.toldCount;
            case 3: return book.levelLines;
            case 4: return book.keep;
            case 5: return book.knots;
            case 6: return worldCount;
            case 7: return places.placeCount;
            case 8: return places.roadCount;
            case 9: return land.candidateCount;
            case 10: return land.workCount;
            default: return NONE;
        }
    }

    // ---- helpers of the face

    private static boolean within(int number, int least, int most) {
        return number >= least && number <= most;
    }

    private static boolean isHour(int hour) {
        return within(hour, 0, HOUR_COUNT - 1);
    }

    private boolean isWorld(int world) {
        return within(world, 0, worldCount - 1);
    }

    /** How many steps in the direction lead so far, NONE if none do. */
    private static int stepsDownwind(int x, int y, int direction) {
        int steps = Math.max(Math.abs(x), Math.abs(y));
        if (!within(direction, 0, 7) || STEP_X[direction] * steps != x || STEP_Y[direction] * steps != y) {
            return NONE;
        }
        return steps;
    }

    /** RAW of an hour as known in that hour; kept, for level and warned ask for many of them. */
    private int rawInOwnHour(int hour) {
        for (int h = rawsKnown; h <= hour; h++) {
            raws[h] = book.greatestLevel(readings, h, h);
            rawsKnown = h + 1;
        }
        return raws[hour];
    }

    /** Ahead of whatever leads people out. */
    private void noteWarnings() {
        if (warningsNoted) {
            return;
        }
        places.forgetWarnings();
        // LEVEL first comes up to a threshold in the hour in which RAW does: keep only holds it up later.
        for (int hour = 0; hour < HOUR_COUNT && places.someUnwarned(); hour++) {
            places.warn(hour, rawInOwnHour(hour));
        }
        warningsNoted = true;
    }

    private void alertsChanged(int fromHour) {
        rawsKnown = Math.min(rawsKnown, fromHour);
        escapeChanged();
    }

    private void lavaChanged() {
        for (int i = 0; i < MAX_WORLDS; i++) {
            forecasts[i].stepped = false;
        }
        escapeChanged();
    }

    private void escapeChanged() {
        warningsNoted = false;
        for (int i = 0; i < MAX_WORLDS; i++) {
            forecasts[i].led = false;
        }
        forgetPlans();
    }

    private void forgetPlans() {
        for (int i = 0; i <= MAX_MORE_WORKS; i++) {
            plans[i].known = false;
        }
    }

    private Forecast steppedForecast(int world) {
        Forecast forecast = forecasts[world];
        if (!forecast.stepped) {
            forecast.stepLava(land, worlds[world]);
        }
        return forecast;
    }

    private Forecast ledForecast(int world) {
        Forecast forecast = steppedForecast(world);
        if (!forecast.led) {
            forecast.leadOut(worlds[world], places, network);
        }
        return forecast;
    }

    private int lostCost() {
        int people = places.allPeople();
        int sum = 0;
        for (int i = 0; i < worldCount; i++) {
            sum += worlds[i].weight * (people - ledForecast(i).saved);
        }
        return sum;
    }

    private int buriedCost() {
        int sum = 0;
        for (int i = 0; i < worldCount; i++) {
            sum += worlds[i].weight * steppedForecast(i).buried;
        }
        return sum;
    }

    /** Sets come by size, then by their numbers, so that of like costs the first one stays. */
    private void tryMoreWorks(Plan plan, int m) {
        int numbers = 2 * land.candidateCount;
        for (int a = 0; a < numbers && m >= 1; a++) {
            if (land.putNumbered(a)) {
                weigh(plan, a, NONE);
                land.takeNumbered(a);
            }
        }
        for (int a = 0; a < numbers && m >= 2; a++) {
            if (land.putNumbered(a)) {
                int ofNextCandidate = a - a % 2 + 2;
                for (int b = ofNextCandidate; b < numbers; b++) {
                    if (land.putNumbered(b)) {
                        weigh(plan, a, b);
                        land.takeNumbered(b);
                    }
                }
                land.takeNumbered(a);
            }
        }
        plan.known = true;
    }

    /** Offers the plan the works as they stand on the land now; each forecast is still of those built. */
    private void weigh(Plan plan, int first, int second) {
        int people = places.allPeople();
        int lost = 0;
        int buried = 0;
        for (int i = 0; i < worldCount && lost <= plan.lost; i++) {
            trial.stepLava(land, worlds[i]);
            if (trial.shutsLike(forecasts[i], places)) {
                trial.saved = forecasts[i].saved;
            } else {
                trial.leadOut(worlds[i], places, network);
            }
            lost += worlds[i].weight * (people - trial.saved);
            buried += worlds[i].weight * trial.buried;
        }
        plan.offer(first, second, lost, buried);
    }

    /** The bytes fed, and the tokens read from their front. */
    private static final class Tape {
        static final int KEEP = 0;
        static final int LEVEL = 1;
        static final int OR = 2;
        static final int AND = 3;
        static final int NOT = 4;
        static final int LAST = 5;
        static final int FIRST = 6;
        static final int SUM = 7;
        static final int MAX = 8;
        static final int MIN = 9;
        static final int COUNT = 10;
        static final int GAPS = 11;
        static final int TREMOR = 12;
        static final int HEAT = 15;
        static final int NUMBER = 16;
        static final int SEMICOLON = 17;
        static final int OPEN = 18;
        static final int CLOSE = 19;
        static final int COMMA = 20;
        static final int PLUS = 21;
        static final int MINUS = 22;
        static final int TIMES = 23;
        static final int OVER = 24;
        static final int LESS = 25;
        static final int AT_MOST = 26;
        static final int EQUAL = 27;
        static final int UNLIKE = 28;
        static final int AT_LEAST = 29;
        static final int MORE = 30;
        /** The minus of one operand; the tape itself only ever gives MINUS. */
        static final int NEGATE = 31;
        static final int END = 32;
        static final int STRANGE = 33;

        static final int CAPACITY = 500;
        /** Every number from here on is too much everywhere. */
        static final int HUGE = 1000000;
        /** The words, in the order of their tokens' numbers, each with a blank behind it. */
        static final String WORDS =
            "keep level or and not last first sum max min count gaps tremor tilt gas heat ";

        final int[] bytes = new int[CAPACITY];
        int size;
        private int textEnd;
        private int at;
        int token;
        int place;
        int number;

        boolean hasSpace(int more) {
            return size + more <= CAPACITY;
        }

        void append(int four) {
            for (int shift = 24; shift >= 0 && size < CAPACITY; shift -= 8) {
                bytes[size] = (four >>> shift) & 255;
                size++;
            }
        }

        /** The first n bytes become the text to read, and the tape is empty for what is fed next. */
        void startText(int n) {
            textEnd = Math.max(0, Math.min(n, size));
            size = 0;
            at = 0;
        }

        /** Reads the next token: its kind, where it stands and, of a number, its value. */
        void next() {
            while (at < textEnd && (bytes[at] == 10 || bytes[at] == 32)) {
                at++;
            }
            place = at;
            if (at >= textEnd) {
                token = END;
            } else if (isLetter(bytes[at])) {
                readWord();
            } else if (isDigit(bytes[at])) {
                readNumber();
            } else {
                readSign();
            }
        }

        private static boolean isLetter(int sign) {
            return sign >= 'a' && sign <= 'z';
        }

        private static boolean isDigit(int sign) {
            return sign >= '0' && sign <= '9';
        }

        private void readWord() {
            while (at < textEnd && isLetter(bytes[at])) {
                at++;
            }
            token = STRANGE;
            int listed = 0;
            int from = 0;
            for (int i = 0; i < WORDS.length(); i++) {
                if (WORDS.charAt(i) == ' ') {
                    if (isWordAt(from, i)) {
                        token = listed;
                    }
                    listed++;
                    from = i + 1;
                }
            }
        }

        private boolean isWordAt(int from, int to) {
            if (to - from != at - place) {
                return false;
            }
            for (int i = from; i < to; i++) {
                if (WORDS.charAt(i) != bytes[place + i - from]) {
                    return false;
                }
            }
            return true;
        }

        private void readNumber() {
            token = NUMBER;
            number = 0;
            while (at < textEnd && isDigit(bytes[at])) {
                number = Math.min(HUGE, number * 10 + bytes[at] - '0');
                at++;
            }
        }

        private void readSign() {
            int sign = bytes[at];
            at++;
            switch (sign) {
                case ';': token = SEMICOLON; break;
                case '(': token = OPEN; break;
                case ')': token = CLOSE; break;
                case ',': token = COMMA; break;
                case '+': token = PLUS; break;
                case '-': token = MINUS; break;
                case '*': token = TIMES; break;
                case '/': token = OVER; break;
                case '=': token = EQUAL; break;
                case '<': token = takes('=') ? AT_MOST : takes('>') ? UNLIKE : LESS; break;
                case '>': token = takes('=') ? AT_LEAST : MORE; break;
                default: token = STRANGE;
            }
        }

        private boolean takes(int sign) {
            if (at < textEnd && bytes[at] == sign) {
                at++;
                return true;
            }
            return false;
        }
    }

    /** RULES in force: each LINE of level as its KNOTS, operands ahead of what works on them. */
    private static final class RuleBook {
        static final long NO_VALUE = Long.MIN_VALUE;
        static final long VALUE_LIMIT = 1000000000000L;
        static final int MAX_KNOTS = 64;
        static final int MAX_LEVEL_LINES = 12;

        private final int[] ops = new int[MAX_KNOTS];
        private final int[] kinds = new int[MAX_KNOTS];
        private final int[] numbers = new int[MAX_KNOTS];
        private final int[] levels = new int[MAX_LEVEL_LINES];
        private final int[] ends = new int[MAX_LEVEL_LINES];
        private final long[] stack = new long[MAX_KNOTS];
        private int stackSize;
        private int size;
        int levelLines;
        int knots;
        int keep;
        boolean keepTold;

        void clear() {
            size = 0;
            levelLines = 0;
            knots = 0;
            keep = 0;
            keepTold = false;
        }

        void write(int op, int kind, int number) {
            if (size < MAX_KNOTS) {
                ops[size] = op;
                kinds[size] = kind;
                numbers[size] = number;
                size++;
            }
        }

        void endLine(int level) {
            if (levelLines < MAX_LEVEL_LINES) {
                levels[levelLines] = level;
                ends[levelLines] = size;
                levelLines++;
            }
        }

        int greatestLevel(Readings readings, int hour, int k) {
            int greatest = 0;
            for (int i = 0; i < levelLines; i++) {
                if (levels[i] > greatest) {
                    long value = value(i, readings, hour, k);
                    if (value != 0 && value != NO_VALUE) {
                        greatest = levels[i];
                    }
                }
            }
            return greatest;
        }

        long value(int line, Readings readings, int hour, int k) {
            stackSize = 0;
            for (int i = line > 0 ? ends[line - 1] : 0; i < ends[line]; i++) {
                long value = knotValue(i, readings, hour, k);
                if (value > VALUE_LIMIT || value < -VALUE_LIMIT) {
                    return NO_VALUE;
                }
                push(value);
            }
            return stackSize > 0 ? stack[stackSize - 1] : NO_VALUE;
        }

        private void push(long value) {
            if (stackSize < MAX_KNOTS) {
                stack[stackSize] = value;
                stackSize++;
            }
        }

        private long pop() {
            if (stackSize <= 0) {
                return 0;
            }
            stackSize--;
            return stack[stackSize];
        }

        private long knotValue(int i, Readings readings, int hour, int k) {
            int op = ops[i];
            if (op == Tape.NUMBER) {
                return numbers[i];
            }
            if (op >= Tape.LAST && op <= Tape.GAPS) {
                return readings.overWindow(op, kinds[i], numbers[i], hour, k);
            }
            long right = pop();
            if (op == Tape.NOT) {
                return asNumber(right == 0);
            }
            if (op == Tape.NEGATE) {
                return -right;
            }
            return join(op, pop(), right);
        }

        private static long join(int op, long a, long b) {
            switch (op) {
                case Tape.OR: return asNumber(a != 0 || b != 0);
                case Tape.AND: return asNumber(a != 0 && b != 0);
                case Tape.LESS: return asNumber(a < b);
                case Tape.AT_MOST: return asNumber(a <= b);
                case Tape.EQUAL: return asNumber(a == b);
                case Tape.UNLIKE: return asNumber(a != b);
                case Tape.AT_LEAST: return asNumber(a >= b);
                case Tape.MORE: return asNumber(a > b);
                case Tape.PLUS: return a + b;
                case Tape.MINUS: return a - b;
                case Tape.TIMES: return product(a, b);
                case Tape.OVER: return b == 0 ? NO_VALUE : a / b;
                default: return NO_VALUE;
            }
        }

        private static long asNumber(boolean holds) {
            return holds ? 1 : 0;
        }

        /** Looks ahead of multiplying, for a product beyond the limit may not fit a long. */
        private static long product(long a, long b) {
            long sizeA = a < 0 ? -a : a;
            long sizeB = b < 0 ? -b : b;
            if (sizeA != 0 && sizeB > VALUE_LIMIT / sizeA) {
                return NO_VALUE;
            }
            return a * b;
        }
    }

    /** Reads RULES from its tape into a book, token by token, up to the first FAULT. */
    private static final class RuleReader {
        static final int GOOD = 0;
        static final int MISPLACED = 1;
        static final int TOO_MUCH = 2;
        static final int KEPT_TWICE = 3;
        static final int MAX_OPEN = 8;
        static final int MAX_KEEP = 24;
        static final int MAX_LEVEL = 4;
        static final int MAX_WINDOW = 48;
        static final int MAX_NUMBER = 99999;

        /** What is due next. */
        private static final int LINE_DUE = 0;
        private static final int KEEP_NUMBER_DUE = 1;
        private static final int KEEP_END_DUE = 2;
        private static final int LEVEL_NUMBER_DUE = 3;
        private static final int OPERAND_DUE = 4;
        private static final int SIGN_DUE = 5;
        private static final int WINDOW_OPEN_DUE = 6;
        private static final int KIND_DUE = 7;
        private static final int COMMA_DUE = 8;
        private static final int WINDOW_NUMBER_DUE = 9;
        private static final int WINDOW_CLOSE_DUE = 10;

        final Tape tape = new Tape();
        int faultKind;
        int faultPlace = NONE;
        private int due;
        private int lines;
        private int lineLevel;
        /** Signs, words and parentheses that wait for what stands behind them. */
        private final int[] waiting = new int[RuleBook.MAX_KNOTS + MAX_OPEN];
        private int waitingCount;
        private int open;
        /** By how many parentheses are open: whether the C being read there has its comparison. */
        private final boolean[] compared = new boolean[MAX_OPEN + 1];
        private boolean notMayStand;
        private int windowWhat;
        private int windowKind;

        /** How many LINES; NONE with a FAULT. */
        int readBook(int n, RuleBook book) {
            tape.startText(n);
            book.clear();
            faultKind = GOOD;
            faultPlace = NONE;
            due = LINE_DUE;
            lines = 0;
            for (int i = 0; i <= Tape.CAPACITY; i++) {
                tape.next();
                if (tape.token == Tape.END && due == LINE_DUE) {
                    return lines;
                }
                faultKind = take(book);
                if (faultKind != GOOD) {
                    faultPlace = tape.place;
                    return NONE;
                }
            }
            return NONE;
        }

        private int take(RuleBook book) {
            switch (due) {
                case LINE_DUE: return takeLineWord(book);
                case KEEP_NUMBER_DUE: return takeKeep(book);
                case KEEP_END_DUE: return takeKeepEnd();
                case LEVEL_NUMBER_DUE: return takeLevel();
                case OPERAND_DUE: return takeAheadOfOperand(book);
                case SIGN_DUE: return takeBehindOperand(book);
                default: return takeOfWindow(book);
            }
        }

        private int takeLineWord(RuleBook book) {
            if (tape.token == Tape.KEEP) {
                due = KEEP_NUMBER_DUE;
                return book.keepTold ? KEPT_TWICE : GOOD;
            }
            if (tape.token == Tape.LEVEL) {
                due = LEVEL_NUMBER_DUE;
                return book.levelLines >= RuleBook.MAX_LEVEL_LINES ? TOO_MUCH : GOOD;
            }
            return MISPLACED;
        }

        private int judgeNumber(int least, int most) {
            if (tape.token != Tape.NUMBER) {
                return MISPLACED;
            }
            return within(tape.number, least, most) ? GOOD : TOO_MUCH;
        }

        private int takeKeep(RuleBook book) {
            book.keepTold = true;
            book.keep = tape.number;
            due = KEEP_END_DUE;
            return judgeNumber(0, MAX_KEEP);
        }

        private int takeKeepEnd() {
            lines++;
            due = LINE_DUE;
            return tape.token == Tape.SEMICOLON ? GOOD : MISPLACED;
        }

        private int takeLevel() {
            lineLevel = tape.number;
            waitingCount = 0;
            open = 0;
            compared[0] = false;
            notMayStand = true;
            due = OPERAND_DUE;
            return judgeNumber(1, MAX_LEVEL);
        }

        private int takeAheadOfOperand(RuleBook book) {
            int token = tape.token;
            if (token == Tape.OPEN) {
                return takeOpen();
            }
            if (token == Tape.NUMBER) {
                return takePlainNumber(book);
            }
            if (token >= Tape.LAST && token <= Tape.GAPS) {
                windowWhat = token;
                due = WINDOW_OPEN_DUE;
                return countKnot(book);
            }
            if (token == Tape.MINUS) {
                notMayStand = false;
                await(Tape.NEGATE);
                return countKnot(book);
            }
            if (token == Tape.NOT && notMayStand) {
                await(Tape.NOT);
                return countKnot(book);
            }
            return MISPLACED;
        }

        private int takeOpen() {
            if (open >= MAX_OPEN) {
                return TOO_MUCH;
            }
            open++;
            compared[open] = false;
            notMayStand = true;
            await(Tape.OPEN);
            return GOOD;
        }

        private int takePlainNumber(RuleBook book) {
            book.write(Tape.NUMBER, 0, tape.number);
            due = SIGN_DUE;
            return tape.number > MAX_NUMBER ? TOO_MUCH : countKnot(book);
        }

        private int takeOfWindow(RuleBook book) {
            int token = tape.token;
            switch (due) {
                case WINDOW_OPEN_DUE:
                    due = KIND_DUE;
                    return token != Tape.OPEN ? MISPLACED : open >= MAX_OPEN ? TOO_MUCH : GOOD;
                case KIND_DUE:
                    due = COMMA_DUE;
                    windowKind = token - Tape.TREMOR;
                    return within(token, Tape.TREMOR, Tape.HEAT) ? GOOD : MISPLACED;
                case COMMA_DUE:
                    due = WINDOW_NUMBER_DUE;
                    return token == Tape.COMMA ? GOOD : MISPLACED;
                case WINDOW_NUMBER_DUE:
                    due = WINDOW_CLOSE_DUE;
                    book.write(windowWhat, windowKind, tape.number);
                    return judgeNumber(1, MAX_WINDOW);
                default:
                    due = SIGN_DUE;
                    return token == Tape.CLOSE ? GOOD : MISPLACED;
            }
        }

        private int takeBehindOperand(RuleBook book) {
            int token = tape.token;
            if (token == Tape.SEMICOLON && open == 0) {
                settle(book, 1);
                book.endLine(lineLevel);
                lines++;
                due = LINE_DUE;
                return GOOD;
            }
            if (token == Tape.CLOSE && open > 0) {
                settle(book, 1);
                waitingCount--;
                open--;
                return GOOD;
            }
            return takeSign(book);
        }

        private int takeSign(RuleBook book) {
            int token = tape.token;
            boolean joins = token == Tape.OR || token == Tape.AND;
            boolean compares = within(token, Tape.LESS, Tape.MORE);
            boolean reckons = within(token, Tape.PLUS, Tape.OVER);
            if (!joins && !reckons && (!compares || compared[open])) {
                return MISPLACED;
            }
            if (!reckons) {
                compared[open] = compares;
            }
            settle(book, strength(token));
            await(token);
            notMayStand = joins;
            due = OPERAND_DUE;
            return countKnot(book);
        }

        private int countKnot(RuleBook book) {
            book.knots++;
            return book.knots > RuleBook.MAX_KNOTS ? TOO_MUCH : GOOD;
        }

        private void await(int token) {
            if (waitingCount < RuleBook.MAX_KNOTS + MAX_OPEN) {
                waiting[waitingCount] = token;
                waitingCount++;
            }
        }

        /** Writes what waits, back to an open parenthesis, as far as it binds so strongly. */
        private void settle(RuleBook book, int least) {
            while (waitingCount > 0 && strength(waiting[waitingCount - 1]) >= least) {
                waitingCount--;
                book.write(waiting[waitingCount], 0, 0);
            }
        }

        private static int strength(int token) {
            switch (token) {
                case Tape.OPEN: return 0;
                case Tape.OR: return 1;
                case Tape.AND: return 2;
                case Tape.NOT: return 3;
                case Tape.PLUS:
                case Tape.MINUS: return 5;
                case Tape.TIMES:
                case Tape.OVER: return 6;
                case Tape.NEGATE: return 7;
                default: return 4;
            }
        }
    }

    /** POSTS and what was told of them, with what WHAT is over a window of it. */
    private static final class Readings {
        static final int MISSING = -10000;
        static final int MOST = 9999;
        static final int MAX_POSTS = 8;
        static final int MAX_TOLD = 400;

        private final int[] kinds = new int[MAX_POSTS];
        int postCount;
        /** By post and hour: the number of what was told last, NONE without. */
        private final int[] latest = new int[MAX_POSTS * HOUR_COUNT];
        /** By number: what was told of the same post and hour just before, NONE without. */
        private final int[] former = new int[MAX_TOLD];
        private final int[] toldIn = new int[MAX_TOLD];
        private final int[] values = new int[MAX_TOLD];
        int toldCount;
        private final Tally tally = new Tally();

        Readings() {
            Arrays.fill(latest, NONE);
        }

        boolean hasPost(int post) {
            return within(post, 0, postCount - 1);
        }

        int addPost(int kind) {
            if (!within(kind, 0, 3) || postCount >= MAX_POSTS) {
                return NONE;
            }
            kinds[postCount] = kind;
            postCount++;
            return postCount - 1;
        }

        int tell(int post, int hour, int now, int value, boolean gone) {
            boolean good = gone || within(value, -MOST, MOST);
            if (!hasPost(post) || !isHour(hour) || !good || toldCount >= MAX_TOLD) {
                return NONE;
            }
            int slot = post * HOUR_COUNT + hour;
            toldIn[toldCount] = now;
            values[toldCount] = gone ? MISSING : value;
            former[toldCount] = latest[slot];
            latest[slot] = toldCount;
            toldCount++;
            return toldCount;
        }

        int known(int post, int hour, int k) {
            int told = latest[post * HOUR_COUNT + hour];
            for (int i = 0; i < toldCount && told != NONE; i++) {
                if (toldIn[told] <= k) {
                    return values[told];
                }
                told = former[told];
            }
            return MISSING;
        }

        long overWindow(int what, int kind, int span, int hour, int k) {
            tally.clear();
            int from = Math.max(0, hour - span + 1);
            for (int post = 0; post < postCount; post++) {
                if (kinds[post] == kind) {
                    for (int h = from; h <= hour; h++) {
                        tally.add(h, known(post, h, k));
                    }
                }
            }
            return tally.part(what);
        }
    }

    /** What WHAT is of the readings added, in any order. */
    private static final class Tally {
        private int sum;
        private int present;
        private int absent;
        private int greatest;
        private int least;
        private int earliestHour;
        private int ofEarliest;
        private int latestHour;
        private int ofLatest;

        void clear() {
            sum = 0;
            present = 0;
            absent = 0;
        }

        void add(int hour, int value) {
            if (value == Readings.MISSING) {
                absent++;
                return;
            }
            boolean only = present == 0;
            greatest = only || value > greatest ? value : greatest;
            least = only || value < least ? value : least;
            if (only || hour < earliestHour || (hour == earliestHour && value > ofEarliest)) {
                earliestHour = hour;
                ofEarliest = value;
            }
            if (only || hour > latestHour || (hour == latestHour && value > ofLatest)) {
                latestHour = hour;
                ofLatest = value;
            }
            sum += value;
            present++;
        }

        long part(int what) {
            switch (what) {
                case Tape.SUM: return sum;
                case Tape.COUNT: return present;
                case Tape.GAPS: return absent;
                default: break;
            }
            if (present == 0) {
                return RuleBook.NO_VALUE;
            }
            switch (what) {
                case Tape.MAX: return greatest;
                case Tape.MIN: return least;
                case Tape.FIRST: return ofEarliest;
                default: return ofLatest;
            }
        }
    }

    /** CELLS with what stands on them, and the CANDIDATES for more WORKS. */
    private static final class Land {
        static final int MAX_CELLS = 64;
        static final int MAX_WORKS = 4;
        static final int MAX_CANDIDATES = 6;
        static final int WALL = 1;
        static final int TRENCH = 2;
        static final int WORK_HEIGHT = 8;

        int width = 4;
        int cellCount = 16;
        final int[] heights = new int[MAX_CELLS];
        final int[] houses = new int[MAX_CELLS];
        final int[] works = new int[MAX_CELLS];
        int workCount;
        private final int[] candidates = new int[MAX_CANDIDATES];
        int candidateCount;

        boolean lay(int w, int h) {
            if (!within(w, 2, 8) || !within(h, 2, 8)) {
                return false;
            }
            width = w;
            cellCount = w * h;
            Arrays.fill(heights, 0);
            Arrays.fill(houses, 0);
            Arrays.fill(works, 0);
            workCount = 0;
            candidateCount = 0;
            return true;
        }

        boolean has(int cell) {
            return within(cell, 0, cellCount - 1);
        }

        int column(int cell) {
            return width > 0 ? cell % width : 0;
        }

        int row(int cell) {
            return width > 0 ? cell / width : 0;
        }

        boolean build(int cell, int height, int houseCount) {
            if (!has(cell) || !within(height, 0, 999) || !within(houseCount, 0, 99)) {
                return false;
            }
            if (houseCount > 0 && works[cell] != 0) {
                return false;
            }
            heights[cell] = height;
            houses[cell] = houseCount;
            return true;
        }

        private static int bit(boolean trench) {
            return trench ? TRENCH : WALL;
        }

        boolean hasWork(int cell, boolean trench) {
            return has(cell) && (works[cell] & bit(trench)) != 0;
        }

        boolean mayPut(int cell, boolean trench) {
            return has(cell) && !hasWork(cell, trench) && houses[cell] == 0 && workCount < MAX_WORKS;
        }

        void setWork(int cell, boolean trench, boolean on) {
            works[cell] ^= bit(trench);
            workCount += on ? 1 : -1;
        }

        int groundOf(int cell) {
            int ground = heights[cell];
            if ((works[cell] & WALL) != 0) {
                ground += WORK_HEIGHT;
            }
            if ((works[cell] & TRENCH) != 0) {
                ground -= WORK_HEIGHT;
            }
            return ground;
        }

        int addCandidate(int cell) {
            if (!has(cell) || candidateCount >= MAX_CANDIDATES) {
                return NONE;
            }
            for (int i = 0; i < candidateCount; i++) {
                if (candidates[i] == cell) {
                    return NONE;
                }
            }
            candidates[candidateCount] = cell;
            candidateCount++;
            return candidateCount - 1;
        }

        /** Puts a WORK by its number among the candidates' ones, where the rules for WORKS let it. */
        boolean putNumbered(int number) {
            int cell = candidates[number / 2];
            boolean trench = number % 2 == 1;
            boolean may = mayPut(cell, trench);
            if (may) {
                setWork(cell, trench, true);
            }
            return may;
        }

        void takeNumbered(int number) {
            setWork(candidates[number / 2], number % 2 == 1, false);
        }
    }

    /** How it may go. */
    private static final class World {
        int start;
        int vent;
        int rate;
        int lasting;
        int weight;

        int firstHour() {
            return Math.max(0, start - Forecast.STEPS);
        }

        int lastHour() {
            return start + Forecast.STEPS;
        }
    }

    /** What becomes of the land and its people in one WORLD. */
    private static final class Forecast {
        static final int STEPS = 12;
        static final int NEVER = STEPS + 1;

        /** By step and cell. */
        private final int[] lava = new int[(STEPS + 1) * Land.MAX_CELLS];
        private final int[] ground = new int[(STEPS + 1) * Land.MAX_CELLS];
        final int[] reached = new int[Land.MAX_CELLS];
        int buried;
        boolean stepped;
        /** By cell, as a step finds them. */
        private final int[] tops = new int[Land.MAX_CELLS];
        private final int[] gain = new int[Land.MAX_CELLS];
        private final int[] moved = new int[Land.MAX_CELLS];

        int saved;
        final int[] inCut = new int[Network.NODES];
        boolean led;
        /** By place: the last hour in which one can be there. */
        private final int[] openTill = new int[Places.MAX_PLACES];

        int lavaBehind(int step, int cell) {
            return lava[step * Land.MAX_CELLS + cell];
        }

        int groundBehind(int step, int cell) {
            return ground[step * Land.MAX_CELLS + cell];
        }

        void stepLava(Land land, World world) {
            for (int cell = 0; cell < land.cellCount; cell++) {
                lava[cell] = 0;
                ground[cell] = land.groundOf(cell);
                reached[cell] = NEVER;
            }
            for (int step = 1; step <= STEPS; step++) {
                stepOnce(land, world, step);
            }
            buried = 0;
            for (int cell = 0; cell < land.cellCount; cell++) {
                buried += reached[cell] < NEVER ? land.houses[cell] : 0;
            }
            stepped = true;
        }

        private void stepOnce(Land land, World world, int step) {
            int base = step * Land.MAX_CELLS;
            System.arraycopy(lava, base - Land.MAX_CELLS, lava, base, land.cellCount);
            System.arraycopy(ground, base - Land.MAX_CELLS, ground, base, land.cellCount);
            Arrays.fill(gain, 0);
            Arrays.fill(moved, 0);
            if (step <= world.lasting) {
                lava[base + world.vent] += world.rate;
                moved[world.vent] = 1;
                // It may give all of it away in this very step, but had it.
                reached[world.vent] = 1;
            }
            for (int cell = 0; cell < land.cellCount; cell++) {
                tops[cell] = ground[base + cell] + lava[base + cell];
            }
            for (int cell = 0; cell < land.cellCount; cell++) {
                if (lava[base + cell] > 0) {
                    give(cell, lowestBeside(land, cell), lava[base + cell]);
                }
            }
            for (int cell = 0; cell < land.cellCount; cell++) {
                lava[base + cell] += gain[cell];
                if (lava[base + cell] > 0) {
                    rest(base, cell, step);
                }
            }
        }

        private void give(int from, int to, int most) {
            int higher = tops[from] - tops[to];
            if (higher >= 2) {
                int given = Math.min(higher / 2, most);
                gain[from] -= given;
                gain[to] += given;
                moved[from] = 1;
                moved[to] = 1;
            }
        }

        /** The neighbours come by rising numbers, so that of like ones the least stays. */
        private int lowestBeside(Land land, int cell) {
            int column = land.column(cell);
            int lowest = NONE;
            if (cell >= land.width) {
                lowest = cell - land.width;
            }
            if (column > 0) {
                lowest = lowerOf(lowest, cell - 1);
            }
            if (column < land.width - 1) {
                lowest = lowerOf(lowest, cell + 1);
            }
            if (cell + land.width < land.cellCount) {
                lowest = lowerOf(lowest, cell + land.width);
            }
            return lowest == NONE ? cell : lowest;
        }

        private int lowerOf(int former, int next) {
            return former == NONE || tops[next] < tops[former] ? next : former;
        }

        private void rest(int base, int cell, int step) {
            if (moved[cell] == 0) {
                lava[base + cell]--;
                ground[base + cell]++;
            }
            // What cooled wholly had its lava in the step before.
            reached[cell] = Math.min(reached[cell], step);
        }

        /** Whether all that closes in the one closes when it does in the other. */
        boolean shutsLike(Forecast other, Places places) {
            for (int i = 0; i < places.placeCount; i++) {
                int cell = places.cells[i];
                if (cell != NONE && reached[cell] != other.reached[cell]) {
                    return false;
                }
            }
            for (int i = 0; i < places.roadCount; i++) {
                int cell = places.roadCells[i];
                if (cell != NONE && reached[cell] != other.reached[cell]) {
                    return false;
                }
            }
            return true;
        }

        private int openTill(World world, int cell) {
            if (cell == NONE) {
                return world.lastHour();
            }
            return Math.min(world.lastHour(), world.start + reached[cell] - 1);
        }

        void leadOut(World world, Places places, Network network) {
            network.clear();
            saved = 0;
            for (int i = 0; i < places.placeCount; i++) {
                openTill[i] = openTill(world, places.cells[i]);
                joinHours(world, places, network, i);
                if (places.isTown(i)) {
                    bringPeople(world, places, network, i);
                }
            }
            for (int i = 0; i < places.roadCount; i++) {
                joinByRoad(world, places, network, i);
            }
            saved += network.mostThrough();
            for (int i = 0; i < Network.NODES; i++) {
                inCut[i] = network.isReached(i) ? 1 : 0;
            }
            led = true;
        }

        private void joinHours(World world, Places places, Network network, int place) {
            int begin = world.firstHour();
            for (int hour = begin; hour < openTill[place]; hour++) {
                int node = Network.node(place, hour - begin);
                network.join(node, node + 1, Network.ANY_NUMBER);
            }
            if (openTill[place] == world.lastHour()) {
                int room = places.isTown(place) ? Network.ANY_NUMBER : places.rooms[place];
                network.join(Network.node(place, world.lastHour() - begin), Network.SINK, room);
            }
        }

        private void bringPeople(World world, Places places, Network network, int town) {
            int warned = places.warnedHours[town];
            if (warned == NONE || warned > world.lastHour()) {
                saved += openTill[town] == world.lastHour() ? places.people[town] : 0;
                return;
            }
            int hour = Math.max(warned, world.firstHour());
            if (hour <= openTill[town]) {
                int node = Network.node(town, hour - world.firstHour());
                network.join(Network.SOURCE, node, places.people[town]);
            }
        }

        private void joinByRoad(World world, Places places, Network network, int road) {
            int begin = world.firstHour();
            int length = places.lengths[road];
            int from = places.froms[road];
            int to = places.tos[road];
            int lastCome = Math.min(openTill(world, places.roadCells[road]), openTill[to]);
            int lastLeave = Math.min(openTill[from], lastCome - length);
            for (int hour = begin; hour <= lastLeave; hour++) {
                if (places.leavesIn(road, hour)) {
                    int node = Network.node(from, hour - begin);
                    network.join(node, Network.node(to, hour + length - begin), places.capacities[road]);
                }
            }
        }
    }

    /** TOWNS, SHELTERS and the ROADS between them. */
    private static final class Places {
        static final int MAX_PLACES = 8;
        static final int MAX_ROADS = 14;

        /** By place; NONE of a shelter. */
        final int[] cells = new int[MAX_PLACES];
        final int[] people = new int[MAX_PLACES];
        final int[] thresholds = new int[MAX_PLACES];
        final int[] lags = new int[MAX_PLACES];
        final int[] rooms = new int[MAX_PLACES];
        /** By place; NONE of what is not warned. */
        final int[] warnedHours = new int[MAX_PLACES];
        int placeCount;

        final int[] froms = new int[MAX_ROADS];
        final int[] tos = new int[MAX_ROADS];
        final int[] lengths = new int[MAX_ROADS];
        final int[] capacities = new int[MAX_ROADS];
        private final int[] everies = new int[MAX_ROADS];
        final int[] roadCells = new int[MAX_ROADS];
        int roadCount;

        void clear() {
            placeCount = 0;
            roadCount = 0;
        }

        boolean has(int place) {
            return within(place, 0, placeCount - 1);
        }

        boolean isTown(int place) {
            return has(place) && cells[place] != NONE;
        }

        int addTown(int cell, int peopleThere, int threshold, int lag) {
            if (placeCount >= MAX_PLACES) {
                return NONE;
            }
            cells[placeCount] = cell;
            people[placeCount] = peopleThere;
            thresholds[placeCount] = threshold;
            lags[placeCount] = lag;
            rooms[placeCount] = 0;
            placeCount++;
            return placeCount - 1;
        }

        int addShelter(int room) {
            int number = addTown(NONE, 0, 0, 0);
            if (number != NONE) {
                rooms[number] = room;
            }
            return number;
        }

        void forgetWarnings() {
            Arrays.fill(warnedHours, NONE);
        }

        boolean someUnwarned() {
            for (int i = 0; i < placeCount; i++) {
                if (cells[i] != NONE && warnedHours[i] == NONE) {
                    return true;
                }
            }
            return false;
        }

        void warn(int hour, int level) {
            for (int i = 0; i < placeCount; i++) {
                if (cells[i] != NONE && warnedHours[i] == NONE && level >= thresholds[i]) {
                    warnedHours[i] = hour + lags[i];
                }
            }
        }

        int addRoad(int from, int to, int length, int capacity, int every, int cell) {
            if (roadCount >= MAX_ROADS) {
                return NONE;
            }
            froms[roadCount] = from;
            tos[roadCount] = to;
            lengths[roadCount] = length;
            capacities[roadCount] = capacity;
            everies[roadCount] = every;
            roadCells[roadCount] = cell;
            roadCount++;
            return roadCount - 1;
        }

        boolean leavesIn(int road, int hour) {
            int every = everies[road];
            return every > 0 && hour % every == 0;
        }

        int allPeople() {
            int sum = 0;
            for (int i = 0; i < placeCount; i++) {
                sum += people[i];
            }
            return sum;
        }
    }

    /** Places by hours, joined by arcs of some capacity, from a source to a sink. */
    private static final class Network {
        static final int HOURS = 2 * Forecast.STEPS + 1;
        static final int SOURCE = Places.MAX_PLACES * HOURS;
        static final int SINK = SOURCE + 1;
        static final int NODES = SINK + 1;
        static final int ANY_NUMBER = 1000000;
        /** Every join makes an arc and its way back: hours, roads, and an end at either side. */
        static final int MAX_ARCS =
            2 * ((Places.MAX_PLACES + Places.MAX_ROADS) * (HOURS - 1) + 2 * Places.MAX_PLACES);
        /** Far above what one round of pushing can need: nodes times arcs. */
        static final int MAX_MOVES = 1000000;

        private final int[] firstArcs = new int[NODES];
        private final int[] nextArcs = new int[MAX_ARCS];
        private final int[] ends = new int[MAX_ARCS];
        private final int[] spaces = new int[MAX_ARCS];
        private int arcCount;
        private final int[] depths = new int[NODES];
        private final int[] tried = new int[NODES];
        private final int[] queue = new int[NODES];
        private final int[] path = new int[NODES];

        static int node(int place, int hour) {
            return place * HOURS + hour;
        }

        void clear() {
            arcCount = 0;
            Arrays.fill(firstArcs, NONE);
        }

        void join(int from, int to, int capacity) {
            if (arcCount + 2 <= MAX_ARCS) {
                addArc(from, to, capacity);
                addArc(to, from, 0);
            }
        }

        private void addArc(int from, int to, int space) {
            ends[arcCount] = to;
            spaces[arcCount] = space;
            nextArcs[arcCount] = firstArcs[from];
            firstArcs[from] = arcCount;
            arcCount++;
        }

        /** The most that can go from source to sink. */
        int mostThrough() {
            // All arcs lead to later hours: one round along the hours finds most of it.
            layByHours();
            int sum = pushRound();
            for (int round = 0; round <= MAX_MOVES && layByDistance(); round++) {
                sum += pushRound();
            }
            return sum;
        }

        /** Behind mostThrough: whether one more could come from the source to a node. */
        boolean isReached(int node) {
            return depths[node] != NONE;
        }

        private void layByHours() {
            for (int i = 0; i < SOURCE; i++) {
                depths[i] = 1 + i % HOURS;
            }
            depths[SOURCE] = 0;
            depths[SINK] = HOURS + 1;
        }

        /** Whether the sink can be reached; without, all is laid that can be. */
        private boolean layByDistance() {
            Arrays.fill(depths, NONE);
            depths[SOURCE] = 0;
            queue[0] = SOURCE;
            int known = 1;
            for (int i = 0; i < known; i++) {
                int node = queue[i];
                int arc = firstArcs[node];
                for (int seen = 0; seen < arcCount && arc != NONE; seen++) {
                    int end = ends[arc];
                    if (spaces[arc] > 0 && depths[end] == NONE && known < NODES) {
                        depths[end] = depths[node] + 1;
                        queue[known] = end;
                        known++;
                    }
                    arc = nextArcs[arc];
                }
            }
            return depths[SINK] != NONE;
        }

        /** Pushes along arcs that lead deeper till none such way is left. */
        private int pushRound() {
            System.arraycopy(firstArcs, 0, tried, 0, NODES);
            int sum = 0;
            int node = SOURCE;
            int length = 0;
            for (int move = 0; move < MAX_MOVES; move++) {
                int arc = node == SINK ? NONE : deeperArc(node);
                if (node == SINK) {
                    sum += pushAlong(length);
                    node = SOURCE;
                    length = 0;
                } else if (arc != NONE && length < NODES) {
                    path[length] = arc;
                    length++;
                    node = ends[arc];
                } else if (length > 0) {
                    depths[node] = NONE;
                    length--;
                    node = ends[path[length] ^ 1];
                } else {
                    break;
                }
            }
            return sum;
        }

        private int deeperArc(int node) {
            int arc = tried[node];
            for (int i = 0; i < arcCount && arc != NONE && !leadsDeeper(node, arc); i++) {
                arc = nextArcs[arc];
            }
            tried[node] = arc;
            return arc;
        }

        private boolean leadsDeeper(int node, int arc) {
            return spaces[arc] > 0 && depths[ends[arc]] > depths[node];
        }

        private int pushAlong(int length) {
            int least = ANY_NUMBER;
            for (int i = 0; i < length; i++) {
                least = Math.min(least, spaces[path[i]]);
            }
            for (int i = 0; i < length; i++) {
                spaces[path[i]] -= least;
                spaces[path[i] ^ 1] += least;
            }
            return least;
        }
    }

    /** The best set of more WORKS offered so far. */
    private static final class Plan {
        boolean known;
        private int first;
        private int second;
        private int lost;
        private int buried;

        /** With no WORKS more. */
        void start(int lostCost, int buriedCost) {
            first = NONE;
            second = NONE;
            lost = lostCost;
            buried = buriedCost;
        }

        void offer(int firstWork, int secondWork, int lostCost, int buriedCost) {
            if (lostCost < lost || (lostCost == lost && buriedCost < buried)) {
                first = firstWork;
                second = secondWork;
                lost = lostCost;
                buried = buriedCost;
            }
        }

        int part(int what) {
            switch (what) {
                case 0: return first == NONE ? 0 : second == NONE ? 1 : 2;
                case 1: return first;
                case 2: return second;
                case 3: return lost;
                case 4: return buried;
                default: return NONE;
            }
        }
    }
}
