import java.util.ArrayList;
import java.util.List;
import java.util.Random;

/** Runs of calls from a seeded source, put to the program and to the oracle, which must agree on every answer. */
public final class OracleTest {
    private static final String[] FACE = {"feed", "rules", "fault", "hours", "post", "read", "reading", "raw", "tries",
        "level", "land", "ground", "work", "world", "lava", "reached", "town", "shelter", "road", "warned", "ledOut",
        "cut", "cost", "candidate", "best", "wind", "ash", "look", "count"};

    /** Sources of seeds that lie close together begin alike; this lays them far apart. */
    private static final long FAR_APART = 0x9E3779B97F4A7C15L;
    private static final int KINDS = 6;

    private final Random random;
    private final VolcanoWatch watch = new VolcanoWatch();
    private final Oracle oracle = new Oracle();
    private final StringBuilder log = new StringBuilder();
    /** Of the WORLDS that stand: from which HOUR on. */
    private final List<Integer> starts = new ArrayList<>();
    private int cells = 16;
    private int calls = 0;
    private boolean wrong = false;
    private int dearCalls = 0;

    private OracleTest(long seed) {
        random = new Random(seed * FAR_APART);
    }

    public static void main(String[] args) {
        long from = args.length > 0 ? Long.parseLong(args[0]) : 1;
        long to = args.length > 1 ? Long.parseLong(args[1]) : 800;
        int wrongRuns = 0;
        for (long seed = from; seed <= to && wrongRuns < 5; seed++) {
            OracleTest test = new OracleTest(seed);
            test.run((int) (seed % KINDS));
            if (test.wrong) {
                wrongRuns++;
                System.out.println("seed " + seed + ":\n" + test.log);
            }
        }
        if (wrongRuns > 0) {
            System.exit(1);
        }
        System.out.println("program and oracle agree on runs " + from + " to " + to);
    }

    private void run(int kind) {
        switch (kind) {
            case 0: wander(); break;
            case 1: askOfRules(); break;
            case 2: askOfLand(); break;
            case 3: askOfBest(); break;
            default: askOfEscape();
        }
    }

    // ---- kinds of runs

    private void wander() {
        while (calls < 500 && !wrong) {
            anyCall();
        }
    }

    private void askOfRules() {
        call("post", random.nextInt(4));
        call("post", random.nextInt(4));
        feedText(anyRules(), true);
        while (calls < 480 && !wrong) {
            int kind = random.nextInt(24);
            if (kind == 0) {
                feedText(anyRules(), true);
                call("count", 3 + random.nextInt(3));
            } else if (kind == 1) {
                call("hours", random.nextInt(random.nextInt(4) == 0 ? 20 : 3));
            } else if (kind == 2) {
                call("post", random.nextInt(4));
            } else if (kind <= 12) {
                tellSome();
            } else {
                askAlerts();
            }
        }
    }

    private void askOfLand() {
        if (random.nextInt(4) > 0) {
            layLand();
        }
        shapeLand();
        while (calls < 480 && !wrong) {
            int kind = random.nextInt(24);
            if (kind == 0) {
                shapeLand();
            } else if (kind == 1 && random.nextInt(3) == 0) {
                layLand();
                shapeLand();
            } else if (kind <= 3) {
                buildSome();
            } else if (kind <= 5) {
                blowSome();
            } else if (kind == 6) {
                anyCall();
            } else {
                askLand();
            }
        }
    }

    private void askOfEscape() {
        call("post", random.nextInt(4));
        call("post", random.nextInt(4));
        if (random.nextInt(3) > 0) {
            layLand();
        }
        feedText(anyRules(), true);
        if (random.nextInt(3) > 0) {
            feedText("level " + (2 + random.nextInt(3)) + " 1; level 1 gaps(gas,3)>" + random.nextInt(3) + ";", false);
        }
        shapeLand();
        settlePeople();
        while (calls < 300 && !wrong) {
            int kind = random.nextInt(16);
            if (kind == 0) {
                shapeLand();
            } else if (kind == 1) {
                settlePeople();
            } else if (kind == 2) {
                call("hours", random.nextInt(20));
                tellSome();
            } else if (kind == 3) {
                feedText(anyRules(), true);
            } else if (kind <= 5) {
                anyCall();
            } else {
                askEscape();
            }
        }
    }

    /** A little land, where works are worth their while. */
    private void askOfBest() {
        call("land", 2 + random.nextInt(4), 2 + random.nextInt(3));
        feedText("level 3 1;", true);
        for (int i = 0; i < cells; i++) {
            call("ground", i, random.nextInt(12), random.nextInt(3) == 0 ? random.nextInt(20) : 0);
        }
        for (int i = random.nextInt(3); i < 3; i++) {
            call("world", random.nextInt(40), cell(), 1 + random.nextInt(30), 1 + random.nextInt(4),
                1 + random.nextInt(4));
        }
        for (int i = 0; i < 7; i++) {
            call("candidate", cell());
        }
        settlePeople();
        for (int i = 0; i < 4; i++) {
            call("best", 1 + random.nextInt(2), 0);
            call("best", 1 + random.nextInt(2), 1 + random.nextInt(4));
            buildSome();
            call("ground", cell(), random.nextInt(20), random.nextInt(30));
        }
    }

    private void layLand() {
        call("land", 2 + random.nextInt(random.nextBoolean() ? 3 : 7), 2 + random.nextInt(random.nextBoolean() ? 3 : 7));
    }

    private void shapeLand() {
        int high = random.nextBoolean() ? 6 : 60;
        for (int i = 0; i < 6; i++) {
            call("ground", cell(), random.nextInt(high), random.nextInt(3) == 0 ? random.nextInt(100) : 0);
        }
        buildSome();
        call("world", random.nextInt(random.nextBoolean() ? 20 : 100), cell(), 1 + random.nextInt(99),
            1 + random.nextInt(12), 1 + random.nextInt(99));
        call("candidate", cell());
    }

    private void buildSome() {
        for (int i = 0; i < 2; i++) {
            call("work", cell(), random.nextInt(2), random.nextInt(3) > 0 ? 1 : 0);
        }
    }

    private void blowSome() {
        int from = starts.isEmpty() ? random.nextInt(124) : starts.get(random.nextInt(starts.size()));
        for (int i = 0; i < 6; i++) {
            call("wind", from + random.nextInt(14) - 1, random.nextInt(8), random.nextInt(8));
        }
    }

    private void settlePeople() {
        for (int i = 0; i < 2; i++) {
            call("town", cell(), 1 + random.nextInt(999), 1 + random.nextInt(4), random.nextInt(6));
        }
        call("shelter", random.nextInt(1500));
        for (int i = 0; i < 5; i++) {
            call("road", place(), place(), 1 + random.nextInt(5),
                1 + random.nextInt(random.nextBoolean() ? 60 : 999), 1 + random.nextInt(6),
                random.nextInt(3) == 0 ? -1 : cell());
        }
    }

    private void tellSome() {
        for (int i = 0; i < 4; i++) {
            int now = oracle.count(0);
            int value = random.nextBoolean() ? random.nextInt(21) - 10 : random.nextInt(19999) - 9999;
            call("read", post(), Math.max(0, now - random.nextInt(6) + random.nextInt(40) / 39), value,
                random.nextInt(6) == 0 ? 1 : 0);
        }
    }

    private void askAlerts() {
        int near = Math.max(0, Math.min(99, oracle.count(0) + random.nextInt(9) - 6));
        int k = random.nextInt(3) == 0 ? Math.max(0, Math.min(99, near + random.nextInt(5) - 2)) : oracle.count(0);
        call("tries", random.nextInt(3), near, k);
        call("raw", near, k);
        call("level", Math.min(99, near + random.nextInt(8)));
        call("reading", post(), near, k);
    }

    private void askLand() {
        switch (random.nextInt(7)) {
            case 0: call("reached", world(), cell()); break;
            case 1: call("look", cell(), random.nextInt(3)); break;
            case 2: call(random.nextBoolean() ? "cost" : "count", 1); break;
            case 3: call("ledOut", world(), 2); break;
            case 4: call("ash", world(), cell()); break;
            default: call("lava", world(), random.nextInt(13), cell(), random.nextInt(2));
        }
    }

    private void askEscape() {
        switch (random.nextInt(12)) {
            case 0:
            case 1: call("ledOut", world(), random.nextInt(3)); break;
            case 2: call("cost", random.nextInt(2)); break;
            case 3: call("warned", place()); break;
            case 4: askLand(); break;
            case 5: buildSome(); break;
            case 6: askBest(); break;
            default: askCut();
        }
    }

    private void askCut() {
        int world = world();
        int start = world < starts.size() ? starts.get(world) : random.nextInt(100);
        call("cut", world, place(), start + random.nextInt(27) - 13);
    }

    /** The oracle takes long over the best of many sets, so that a run asks for few of them. */
    private void askBest() {
        if (dearCalls < 2) {
            dearCalls++;
            int m = random.nextInt(3);
            for (int what = 0; what < (m == 2 ? 2 : 5); what++) {
                call("best", m, what);
            }
        }
    }

    private void anyCall() {
        String name = FACE[random.nextInt(FACE.length)];
        if (name.equals("feed") || name.equals("rules")) {
            feedText(anyRules(), true);
            call("rules", random.nextInt(40) - 5);
            return;
        }
        if (name.equals("best")) {
            askBest();
            return;
        }
        int[] args = new int[8];
        for (int i = 0; i < args.length; i++) {
            args[i] = anyNumber();
        }
        call(name, args);
    }

    private int anyNumber() {
        switch (random.nextInt(8)) {
            case 0: return random.nextInt(130) - 5;
            case 1: return random.nextInt(1100) - 20;
            case 2: return random.nextInt();
            case 3: return random.nextInt(3) == 0 ? Integer.MIN_VALUE : Integer.MAX_VALUE;
            case 4: return random.nextInt(20);
            default: return random.nextInt(6) - 1;
        }
    }

    private int post() {
        int posts = oracle.count(1);
        return random.nextInt(40) == 0 ? posts : random.nextInt(Math.max(1, posts));
    }

    private int world() {
        return random.nextInt(30) == 0 ? starts.size() : random.nextInt(Math.max(1, starts.size()));
    }

    private int place() {
        int places = oracle.count(7);
        return random.nextInt(30) == 0 ? places : random.nextInt(Math.max(1, places));
    }

    private int cell() {
        return random.nextInt(30) == 0 ? cells : random.nextInt(cells);
    }

    // ---- texts of rules

    private String anyRules() {
        StringBuilder text = new StringBuilder();
        int lines = random.nextInt(8) == 0 ? 15 : 1 + random.nextInt(4);
        for (int i = 0; i < lines; i++) {
            if (random.nextInt(5) == 0) {
                text.append("keep ").append(random.nextInt(27)).append(blank()).append(';').append(blank());
            } else {
                text.append("level").append(blank()).append(random.nextInt(20) == 0 ? 5 : 1 + random.nextInt(4));
                text.append(' ').append(expression(random.nextInt(5))).append(blank()).append(';');
            }
        }
        if (random.nextInt(3) == 0) {
            spoil(text);
        }
        return text.toString();
    }

    private String blank() {
        return random.nextInt(4) == 0 ? random.nextBoolean() ? "\n" : " " : "";
    }

    private String expression(int depth) {
        String[] signs = {"+", "-", "*", "/", "<", "<=", "=", "<>", ">=", ">", " and ", " or ", " and ", " or "};
        if (depth <= 0) {
            return operand();
        }
        switch (random.nextInt(7)) {
            case 0: return "(" + blank() + expression(depth - 1) + ")";
            case 1: return " not " + expression(depth - 1);
            case 2: return "-" + blank() + expression(depth - 1);
            case 3: return operand();
            default:
                return expression(depth - 1) + blank() + signs[random.nextInt(signs.length)] + blank()
                    + (random.nextBoolean() ? operand() : expression(depth - 1));
        }
    }

    private String operand() {
        String[] whats = {"last", "first", "sum", "max", "min", "count", "gaps"};
        String[] kinds = {"tremor", "tilt", "gas", "heat"};
        switch (random.nextInt(5)) {
            case 0: return Integer.toString(random.nextInt(12));
            case 1: return Integer.toString(random.nextInt(random.nextInt(15) == 0 ? 100050 : 100000));
            default:
                int span = random.nextInt(3) == 0 ? random.nextInt(50) : 1 + random.nextInt(5);
                return whats[random.nextInt(7)] + blank() + "(" + kinds[random.nextInt(4)] + blank() + ","
                    + blank() + span + ")";
        }
    }

    private void spoil(StringBuilder text) {
        String signs = "abklnot 019(),;<>=+-*/$\t\n" + (char) 200;
        int at = random.nextInt(text.length());
        switch (random.nextInt(4)) {
            case 0: text.deleteCharAt(at); break;
            case 1: text.insert(at, signs.charAt(random.nextInt(signs.length()))); break;
            case 2: text.setCharAt(at, signs.charAt(random.nextInt(signs.length()))); break;
            default: text.setLength(at);
        }
    }

    private void feedText(String wanted, boolean readToo) {
        String text = wanted.length() > 500 ? wanted.substring(0, 500) : wanted;
        for (int i = 0; i < text.length(); i += 20) {
            int[] five = new int[5];
            for (int j = 0; j < 20; j++) {
                int sign = i + j < text.length() ? text.charAt(i + j) : ' ';
                five[j / 4] = five[j / 4] << 8 | sign;
            }
            call("feed", five);
        }
        call("rules", text.length());
        call("fault", 0);
        call("fault", 1);
    }

    // ---- one call to both

    private void call(String name, int... given) {
        if (wrong || calls >= 512) {
            return;
        }
        calls++;
        int[] args = java.util.Arrays.copyOf(given, 8);
        String due = answer(() -> OracleFace.ask(oracle, name, args));
        String got = answer(() -> OracleFace.ask(watch, name, args));
        log.append(name).append(java.util.Arrays.toString(given)).append(" -> ").append(got).append('\n');
        if (name.equals("land") && due.equals("1")) {
            cells = args[0] * args[1];
            starts.clear();
        }
        if (name.equals("world") && !due.equals("-1")) {
            starts.add(args[0]);
        }
        if (!due.equals(got)) {
            wrong = true;
            log.append("    due is ").append(due).append('\n');
        }
    }

    private static String answer(java.util.function.LongSupplier asked) {
        try {
            return Long.toString(asked.getAsLong());
        } catch (RuntimeException e) {
            return e.getClass().getName();
        }
    }
}
