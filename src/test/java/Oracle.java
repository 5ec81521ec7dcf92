import java.util.ArrayDeque;
import java.util.ArrayList;
import java.util.Arrays;
import java.util.HashMap;
import java.util.List;
import java.util.Map;
import java.util.NoSuchElementException;

/** The document once more, written for plainness alone and by other ways than the program. */
final class Oracle {
    static final int NONE = -1;

    private record Told(int post, int hour, int in, int value, boolean gone) { }
    private record World(int start, int vent, int rate, int lasting, int weight) { }
    private record Place(boolean town, int cell, int people, int threshold, int lag, int room) { }
    private record Road(int from, int to, int hours, int capacity, int every, int cell) { }
    private record Work(int cell, boolean trench) { }
    private record Wind(int direction, int speed) { }

    private String tape = "";
    private int faultKind = 0;
    private int faultPlace = NONE;
    private int now = 0;
    private final List<Integer> posts = new ArrayList<>();
    private final List<Told> told = new ArrayList<>();
    private OracleRules book = new OracleRules("");
    private int width = 4;
    private int height = 4;
    private int[] heights = new int[16];
    private int[] houses = new int[16];
    private final List<Work> works = new ArrayList<>();
    private final List<World> worlds = new ArrayList<>();
    private final List<Place> places = new ArrayList<>();
    private final List<Road> roads = new ArrayList<>();
    private final List<Integer> candidates = new ArrayList<>();
    private final Map<Integer, Wind> winds = new HashMap<>();

    int feed(int a, int b, int c, int d, int e) {
        if (tape.length() + 20 > 500) {
            return NONE;
        }
        for (int number : new int[] {a, b, c, d, e}) {
            for (int i = 3; i >= 0; i--) {
                tape += (char) ((number >> (8 * i)) & 0xff);
            }
        }
        return tape.length();
    }

    int rules(int n) {
        if (n < 0 || n > tape.length()) {
            return -2;
        }
        OracleRules next = new OracleRules(tape.substring(0, n));
        tape = "";
        faultKind = next.faultKind;
        faultPlace = next.faultPlace;
        if (faultKind != 0) {
            return NONE;
        }
        book = next;
        return next.lineCount;
    }

    int fault(int what) {
        return what == 0 ? faultKind : what == 1 ? faultPlace : NONE;
    }

    int hours(int n) {
        if (n < 0 || n > 99 || now + n > 99) {
            return NONE;
        }
        return now += n;
    }

    int post(int kind) {
        if (kind < 0 || kind > 3 || posts.size() == 8) {
            return NONE;
        }
        posts.add(kind);
        return posts.size() - 1;
    }

    private boolean isPost(int p) {
        return p >= 0 && p < posts.size();
    }

    int read(int post, int hour, int v, boolean gone) {
        if (!isPost(post) || hour < 0 || hour > now || (!gone && Math.abs((long) v) > 9999) || told.size() == 400) {
            return NONE;
        }
        told.add(new Told(post, hour, now, v, gone));
        return told.size();
    }

    private static boolean isHour(int h) {
        return h >= 0 && h <= 99;
    }

    /** null: missing. */
    private Integer known(int post, int hour, int k) {
        Integer latest = null;
        for (Told t : told) {
            if (t.post() == post && t.hour() == hour && t.in() <= k) {
                latest = t.gone() ? null : (Integer) t.value();
            }
        }
        return latest;
    }

    int reading(int post, int hour, int k) {
        if (!isPost(post) || !isHour(hour) || !isHour(k)) {
            return -20000;
        }
        Integer value = known(post, hour, k);
        return value == null ? -10000 : value;
    }

    private Long window(String what, int kind, int n, int h, int k) {
        long sum = 0;
        int count = 0;
        int gaps = 0;
        Long max = null;
        Long min = null;
        Long first = null;
        Long last = null;
        for (int hour = Math.max(0, h - n + 1); hour <= h; hour++) {
            Long greatestHere = null;
            for (int p = 0; p < posts.size(); p++) {
                if (posts.get(p) != kind) {
                    continue;
                }
                Integer value = known(p, hour, k);
                if (value == null) {
                    gaps++;
                    continue;
                }
                sum += value;
                count++;
                max = max == null ? value : Math.max(max, value);
                min = min == null ? value : Math.min(min, value);
                greatestHere = greatestHere == null ? value : Math.max(greatestHere, value);
            }
            if (greatestHere != null) {
                first = first == null ? greatestHere : first;
                last = greatestHere;
            }
        }
        return switch (what) {
            case "sum" -> sum;
            case "count" -> (long) count;
            case "gaps" -> (long) gaps;
            case "max" -> max;
            case "min" -> min;
            case "first" -> first;
            default -> last;
        };
    }

    private Long value(OracleRules.Tree tree, int h, int k) {
        Long value = valueUnbound(tree, h, k);
        return value == null || Math.abs(value) > 1_000_000_000_000L ? null : value;
    }

    private Long valueUnbound(OracleRules.Tree t, int h, int k) {
        if (t.left == null && t.right == null) {
            return t.kind >= 0 ? window(t.op, t.kind, t.number, h, k) : (Long) (long) t.number;
        }
        Long right = value(t.right, h, k);
        Long left = t.left == null ? (Long) 0L : value(t.left, h, k);
        if (left == null || right == null) {
            return null;
        }
        long a = left;
        long b = right;
        switch (t.op) {
            case "not": return b == 0 ? 1L : 0L;
            case "neg": return -b;
            case "or": return a != 0 || b != 0 ? 1L : 0L;
            case "and": return a != 0 && b != 0 ? 1L : 0L;
            case "<": return a < b ? 1L : 0L;
            case "<=": return a <= b ? 1L : 0L;
            case "=": return a == b ? 1L : 0L;
            case "<>": return a != b ? 1L : 0L;
            case ">=": return a >= b ? 1L : 0L;
            case ">": return a > b ? 1L : 0L;
            case "+": return a + b;
            case "-": return a - b;
            case "*":
                if (Math.abs((double) a * (double) b) > 2e12) {
                    return null;
                }
                return a * b;
            default: return b == 0 ? null : (Long) (a / b);
        }
    }

    int raw(int hour, int k) {
        if (!isHour(hour) || !isHour(k)) {
            return NONE;
        }
        int greatest = 0;
        for (OracleRules.Line line : book.lines) {
            Long v = value(line.tree(), hour, k);
            if (v != null && v != 0) {
                greatest = Math.max(greatest, line.level());
            }
        }
        return greatest;
    }

    long tries(int i, int hour, int k) {
        if (i < 0 || i >= book.lines.size() || !isHour(hour) || !isHour(k)) {
            return Long.MIN_VALUE;
        }
        Long v = value(book.lines.get(i).tree(), hour, k);
        return v == null ? Long.MIN_VALUE : v;
    }

    int level(int hour) {
        if (!isHour(hour)) {
            return NONE;
        }
        int greatest = 0;
        for (int h = hour; h >= 0 && h >= hour - book.keep; h--) {
            greatest = Math.max(greatest, raw(h, h));
        }
        return greatest;
    }

    boolean land(int w, int h) {
        if (w < 2 || w > 8 || h < 2 || h > 8) {
            return false;
        }
        width = w;
        height = h;
        heights = new int[w * h];
        houses = new int[w * h];
        works.clear();
        worlds.clear();
        places.clear();
        roads.clear();
        candidates.clear();
        return true;
    }

    private boolean isCell(int c) {
        return c >= 0 && c < width * height;
    }

    boolean ground(int cell, int high, int house) {
        if (!isCell(cell) || high < 0 || high > 999 || house < 0 || house > 99) {
            return false;
        }
        if (house > 0 && (works.contains(new Work(cell, true)) || works.contains(new Work(cell, false)))) {
            return false;
        }
        heights[cell] = high;
        houses[cell] = house;
        return true;
    }

    private boolean mayAdd(Work work) {
        return !works.contains(work) && houses[work.cell()] == 0 && works.size() < 4;
    }

    boolean work(int cell, boolean trench, boolean on) {
        if (!isCell(cell)) {
            return false;
        }
        Work work = new Work(cell, trench);
        if (!on) {
            return works.remove(work);
        }
        return mayAdd(work) && works.add(work);
    }

    int world(int start, int vent, int rate, int lasting, int weight) {
        boolean can = isHour(start) && isCell(vent) && rate >= 1 && rate <= 99
            && lasting >= 1 && lasting <= 12 && weight >= 1 && weight <= 99;
        if (!can || worlds.size() == 3) {
            return NONE;
        }
        worlds.add(new World(start, vent, rate, lasting, weight));
        return worlds.size() - 1;
    }

    private boolean isWorld(int w) {
        return w >= 0 && w < worlds.size();
    }

    /** [0] lava, [1] ground, [2] reached (of cells that ever had lava up to that step), by step and cell. */
    private int[][][] lavaRun(World world) {
        int cells = width * height;
        int[][][] run = new int[3][13][cells];
        Arrays.fill(run[2][0], 13);
        for (int c = 0; c < cells; c++) {
            run[1][0][c] = heights[c];
        }
        for (Work work : works) {
            run[1][0][work.cell()] += work.trench() ? -8 : 8;
        }
        for (int s = 1; s <= 12; s++) {
            int[] lava = run[0][s - 1].clone();
            int[] ground = run[1][s - 1].clone();
            int[] reached = run[2][s - 1].clone();
            boolean[] moved = new boolean[cells];
            if (s <= world.lasting()) {
                lava[world.vent()] += world.rate();
                moved[world.vent()] = true;
            }
            int[] seen = lava.clone();
            for (int c = 0; c < cells; c++) {
                if (seen[c] == 0) {
                    continue;
                }
                reached[c] = Math.min(reached[c], s);
                int lowest = NONE;
                for (int other = 0; other < cells; other++) {
                    int away = Math.abs(other % width - c % width) + Math.abs(other / width - c / width);
                    if (away == 1 && (lowest == NONE || ground[other] + seen[other] < ground[lowest] + seen[lowest])) {
                        lowest = other;
                    }
                }
                int diff = ground[c] + seen[c] - ground[lowest] - seen[lowest];
                if (diff >= 2) {
                    int amount = Math.min(seen[c], diff / 2);
                    lava[c] -= amount;
                    lava[lowest] += amount;
                    moved[c] = true;
                    moved[lowest] = true;
                }
            }
            for (int c = 0; c < cells; c++) {
                if (lava[c] > 0 && !moved[c]) {
                    lava[c]--;
                    ground[c]++;
                }
                if (lava[c] > 0) {
                    reached[c] = Math.min(reached[c], s);
                }
            }
            run[0][s] = lava;
            run[1][s] = ground;
            run[2][s] = reached;
        }
        return run;
    }

    int lava(int world, int step, int cell, int what) {
        if (!isWorld(world) || step < 0 || step > 12 || !isCell(cell) || what < 0 || what > 1) {
            return -1000;
        }
        return lavaRun(worlds.get(world))[what][step][cell];
    }

    int reached(int world, int cell) {
        if (!isWorld(world) || !isCell(cell)) {
            return NONE;
        }
        return lavaRun(worlds.get(world))[2][12][cell];
    }

    int town(int cell, int people, int threshold, int lag) {
        boolean can = isCell(cell) && people >= 1 && people <= 999 && threshold >= 1 && threshold <= 4
            && lag >= 0 && lag <= 5;
        if (!can || places.size() == 8) {
            return NONE;
        }
        places.add(new Place(true, cell, people, threshold, lag, 0));
        return places.size() - 1;
    }

    int shelter(int room) {
        if (room < 0 || room > 9999 || places.size() == 8) {
            return NONE;
        }
        places.add(new Place(false, NONE, 0, 0, 0, room));
        return places.size() - 1;
    }

    private boolean isPlace(int p) {
        return p >= 0 && p < places.size();
    }

    int road(int from, int to, int hours, int capacity, int every, int cell) {
        boolean can = isPlace(from) && isPlace(to) && from != to && hours >= 1 && hours <= 5
            && capacity >= 1 && capacity <= 999 && every >= 1 && every <= 6 && (cell == NONE || isCell(cell));
        if (!can || roads.size() == 14) {
            return NONE;
        }
        roads.add(new Road(from, to, hours, capacity, every, cell));
        return roads.size() - 1;
    }

    int warned(int place) {
        if (!isPlace(place) || !places.get(place).town()) {
            return NONE;
        }
        for (int h = 0; h <= 99; h++) {
            if (level(h) >= places.get(place).threshold()) {
                return h + places.get(place).lag();
            }
        }
        return NONE;
    }

    /** People over places and hours, as a table of how many more may go from node to node. */
    private final class Escape {
        final int begin;
        final int end;
        final int[][] space;
        final int source;
        final int sink;
        int sure = 0;

        Escape(World world) {
            begin = Math.max(0, world.start() - 12);
            end = world.start() + 12;
            int hours = end - begin + 1;
            source = places.size() * hours;
            sink = source + 1;
            space = new int[sink + 1][sink + 1];
            int[] reached = lavaRun(world)[2][12];
            for (int p = 0; p < places.size(); p++) {
                Place place = places.get(p);
                for (int h = begin; h <= end; h++) {
                    if (h < end && open(p, h, world, reached) && open(p, h + 1, world, reached)) {
                        space[node(p, h)][node(p, h + 1)] += 100000;
                    }
                }
                boolean openAtEnd = open(p, end, world, reached);
                if (openAtEnd) {
                    space[node(p, end)][sink] += place.town() ? 100000 : place.room();
                }
                if (!place.town()) {
                    continue;
                }
                int warned = warned(p);
                if (warned == NONE || warned > end) {
                    sure += openAtEnd ? place.people() : 0;
                } else if (open(p, Math.max(begin, warned), world, reached)) {
                    space[source][node(p, Math.max(begin, warned))] += place.people();
                }
            }
            for (Road road : roads) {
                for (int h = begin; h + road.hours() <= end; h++) {
                    boolean free = h % road.every() == 0 && open(road.from(), h, world, reached)
                        && open(road.to(), h + road.hours(), world, reached);
                    for (int g = h; g <= h + road.hours(); g++) {
                        free &= road.cell() == NONE || g < world.start() + reached[road.cell()];
                    }
                    if (free) {
                        space[node(road.from(), h)][node(road.to(), h + road.hours())] += road.capacity();
                    }
                }
            }
        }

        int node(int place, int hour) {
            return place * (end - begin + 1) + hour - begin;
        }

        private boolean open(int place, int hour, World world, int[] reached) {
            Place p = places.get(place);
            return !p.town() || hour < world.start() + reached[p.cell()];
        }

        /** Pushes shortest ways till there is none. */
        int push() {
            int sum = 0;
            while (true) {
                int[] from = new int[space.length];
                Arrays.fill(from, NONE);
                from[source] = source;
                ArrayDeque<Integer> queue = new ArrayDeque<>(List.of(source));
                while (!queue.isEmpty() && from[sink] == NONE) {
                    int at = queue.poll();
                    for (int to = 0; to < space.length; to++) {
                        if (space[at][to] > 0 && from[to] == NONE) {
                            from[to] = at;
                            queue.add(to);
                        }
                    }
                }
                if (from[sink] == NONE) {
                    return sum;
                }
                int amount = Integer.MAX_VALUE;
                for (int at = sink; at != source; at = from[at]) {
                    amount = Math.min(amount, space[from[at]][at]);
                }
                for (int at = sink; at != source; at = from[at]) {
                    space[from[at]][at] -= amount;
                    space[at][from[at]] += amount;
                }
                sum += amount;
            }
        }
    }

    int ledOut(int world, int what) {
        if (!isWorld(world) || what < 0 || what > 2) {
            return NONE;
        }
        World w = worlds.get(world);
        if (what == 2) {
            int buried = 0;
            int[] reached = lavaRun(w)[2][12];
            for (int c = 0; c < reached.length; c++) {
                buried += reached[c] <= 12 ? houses[c] : 0;
            }
            return buried;
        }
        Escape escape = new Escape(w);
        int saved = escape.sure + escape.push();
        return what == 0 ? saved : places.stream().mapToInt(Place::people).sum() - saved;
    }

    /** A place and hour is in the cut if a door there for one more person would save one more. */
    int cut(int world, int place, int hour) {
        if (!isWorld(world) || !isPlace(place)) {
            return NONE;
        }
        Escape escape = new Escape(worlds.get(world));
        if (hour < escape.begin || hour > escape.end) {
            return NONE;
        }
        escape.push();
        escape.space[escape.node(place, hour)][escape.sink]++;
        return escape.push() > 0 ? 1 : 0;
    }

    int cost(int what) {
        if (what < 0 || what > 1) {
            return NONE;
        }
        int sum = 0;
        for (int w = 0; w < worlds.size(); w++) {
            sum += worlds.get(w).weight() * ledOut(w, what + 1);
        }
        return sum;
    }

    int candidate(int cell) {
        if (!isCell(cell) || candidates.contains(cell) || candidates.size() == 6) {
            return NONE;
        }
        candidates.add(cell);
        return candidates.size() - 1;
    }

    int best(int m, int what) {
        if (m < 0 || m > 2 || what < 0 || what > 4) {
            return NONE;
        }
        // A set as three digits: how many, first and second number; the least key of all is the best.
        long[] least = null;
        for (int a = NONE; a < 2 * candidates.size(); a++) {
            for (int b = NONE; b < 2 * candidates.size(); b++) {
                int size = (a == NONE ? 0 : 1) + (b == NONE ? 0 : 1);
                boolean ordered = b == NONE || (a != NONE && a / 2 < b / 2);
                if (!ordered || size > m) {
                    continue;
                }
                long[] key = keyOf(a, b, size);
                if (key != null && (least == null || Arrays.compare(key, least) < 0)) {
                    least = key;
                }
            }
        }
        return (int) new long[] {least[2], least[3], least[4], least[0], least[1]}[what];
    }

    private long[] keyOf(int a, int b, int size) {
        List<Work> before = new ArrayList<>(works);
        boolean can = true;
        for (int number : new int[] {a, b}) {
            if (number != NONE && can) {
                Work work = new Work(candidates.get(number / 2), number % 2 == 1);
                can = mayAdd(work);
                works.add(work);
            }
        }
        long[] key = can ? new long[] {cost(0), cost(1), size, a, b} : null;
        works.clear();
        works.addAll(before);
        return key;
    }

    boolean wind(int hour, int direction, int speed) {
        if (hour < 0 || hour > 123 || direction < 0 || direction > 7 || speed < 0 || speed > 7) {
            return false;
        }
        winds.put(hour, new Wind(direction, speed));
        return true;
    }

    int ash(int world, int cell) {
        if (!isWorld(world) || !isCell(cell)) {
            return NONE;
        }
        World w = worlds.get(world);
        int sum = 0;
        for (int h = w.start(); h <= w.start() + w.lasting() - 1; h++) {
            Wind wind = winds.getOrDefault(h, new Wind(0, 0));
            int x = w.vent() % width;
            int y = w.vent() / width;
            int rate = w.rate();
            for (int d = 0; d <= wind.speed(); d++) {
                if (x == cell % width && y == cell / width) {
                    sum += rate;
                }
                rate /= 2;
                int turn = wind.direction();
                x += turn == 0 || turn == 1 || turn == 7 ? 1 : turn >= 3 && turn <= 5 ? -1 : 0;
                y += turn >= 1 && turn <= 3 ? 1 : turn >= 5 ? -1 : 0;
            }
        }
        return sum;
    }

    int look(int cell, int what) {
        if (!isCell(cell)) {
            throw new IndexOutOfBoundsException();
        }
        if (what < 0 || what > 2) {
            throw new NoSuchElementException();
        }
        int wall = works.contains(new Work(cell, false)) ? 1 : 0;
        int trench = works.contains(new Work(cell, true)) ? 2 : 0;
        return what == 0 ? heights[cell] : what == 1 ? houses[cell] : wall + trench;
    }

    int count(int what) {
        int[] counts = {now, posts.size(), told.size(), book.lines.size(), book.keep, book.knots, worlds.size(),
            places.size(), roads.size(), candidates.size(), works.size()};
        return what < 0 || what >= counts.length ? NONE : counts[what];
    }
}
