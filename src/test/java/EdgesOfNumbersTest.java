import java.util.Set;
import java.util.TreeSet;

/**
 * Of every number that a call asks for: the least and the greatest that are taken, the first beyond them and the
 * ends of int refused; and of a refused call, that nothing has changed.
 */
public final class EdgesOfNumbersTest {
    private static final String NO_VALUE = Long.toString(Long.MIN_VALUE);

    /** Some of everything, and room for more: NOW 5, 5 by 4 CELLS, worlds in 20 and 99, 20 bytes on the tape. */
    private static final Scene SOME = Scene.of("land 5 4 = 1", "post 0 = 0", "post 2 = 1", "post 0 = 2",
        "read 0 0 7 0 = 1", "hours 5 = 5", "read 0 5 -3 0 = 2", "read 1 4 9 0 = 3", "read 2 1 2 0 = 4",
        "rules keep 3; level 2 count(tremor,4) > 0; level 1 gaps(gas,2); level 4 last(gas,3) / 3 = 3;",
        "ground 0 9 0 = 1", "ground 1 6 0 = 1", "ground 2 3 4 = 1", "ground 6 30 0 = 1", "ground 7 5 9 = 1",
        "ground 18 2 99 = 1", "work 8 0 1 = 1", "work 9 1 1 = 1", "world 20 0 60 3 2 = 0", "world 99 12 99 12 5 = 1",
        "town 2 500 2 1 = 0", "town 7 200 1 0 = 1", "shelter 300 = 2", "road 0 2 1 10 1 -1 = 0",
        "road 1 2 2 30 6 13 = 1", "road 1 0 3 5 2 1 = 2", "candidate 1 = 0", "candidate 11 = 1", "wind 20 0 3 = 1",
        "wind 100 2 7 = 1", "text level 3 1+1; keep 7;");

    public static void main(String[] args) {
        ofTapeAndRules();
        ofHoursAndReadings();
        ofAlerts();
        ofLand();
        ofWorlds();
        ofPlaces();
        ofPeople();
        ofCosts();
        ofWinds();
        ofLooksAndCounts();
        Check.end("EdgesOfNumbersTest");
    }

    /** The call by its name, other arguments and, as '?', the one that goes from least to most. */
    private static void within(String call, int least, int most, String refusal) {
        takenWithin(call, least, most, refusal);
        refusedBeyond(call, least, most, refusal);
    }

    private static void takenWithin(String call, int least, int most, String refusal) {
        SOME.takes(call.replace("?", Integer.toString(least)), refusal);
        SOME.takes(call.replace("?", Integer.toString(most)), refusal);
    }

    private static void refusedBeyond(String call, int least, int most, String refusal) {
        Set<Long> beyond = new TreeSet<>();
        for (long away : new long[] {1, 2, 256, 65536, 1L << 24}) {
            beyond.add(least - away);
            beyond.add(most + away);
        }
        for (long end : new long[] {0, 1}) {
            beyond.add(Integer.MIN_VALUE + end);
            beyond.add(Integer.MAX_VALUE - end);
        }
        for (long number : beyond) {
            SOME.refuses(call.replace("?", Long.toString(number)), refusal);
        }
    }

    private static void ofTapeAndRules() {
        SOME.answers("rules 0", 0);
        SOME.and("rules 0").answers("rules 1", -2);
        SOME.answers("rules 20", 2);
        refusedBeyond("rules ?", 0, 20, "-2");
        SOME.answers("fault 0", 0);
        SOME.answers("fault 1", -1);
        refusedBeyond("fault ?", 0, 1, "-1");
        Scene faulty = SOME.and("rules 1 = -1");
        faulty.answers("fault 0", 1);
        faulty.answers("fault 1", 0);
        int[] ends = {Integer.MIN_VALUE, -1, 2, Integer.MAX_VALUE};
        for (int what : ends) {
            faulty.refuses("fault " + what, -1);
        }
    }

    private static void ofHoursAndReadings() {
        within("hours ?", 0, 94, "-1");
        SOME.answers("hours 94", 99);
        within("post ?", 0, 3, "-1");
        within("read ? 0 0 0", 0, 2, "-1");
        within("read 0 ? 0 0", 0, 5, "-1");
        within("read 0 0 ? 0", -9999, 9999, "-1");
        refusedBeyond("read ? 0 0 1", 0, 2, "-1");
        refusedBeyond("read 0 ? 0 1", 0, 5, "-1");
        for (int v : new int[] {Integer.MIN_VALUE, -10000, 0, 10000, Integer.MAX_VALUE}) {
            SOME.answers("read 0 0 " + v + " 1", 5);
            SOME.and("read 0 0 " + v + " 1").answers("reading 0 0 5", -10000);
        }
        SOME.and("read 0 0 -9999 0").answers("reading 0 0 5", -9999);
        SOME.and("read 0 0 9999 0").answers("reading 0 0 5", 9999);
        within("reading ? 0 0", 0, 2, "-20000");
        within("reading 0 ? 99", 0, 99, "-20000");
        within("reading 0 0 ?", 0, 99, "-20000");
    }

    private static void ofAlerts() {
        within("raw ? 5", 0, 99, "-1");
        within("raw 5 ?", 0, 99, "-1");
        within("tries ? 5 5", 0, 2, NO_VALUE);
        within("tries 0 ? 5", 0, 99, NO_VALUE);
        within("tries 0 5 ?", 0, 99, NO_VALUE);
        within("level ?", 0, 99, "-1");
        within("warned ?", 0, 1, "-1");
    }

    private static void ofLand() {
        within("land ? 3", 2, 8, "0");
        within("land 3 ?", 2, 8, "0");
        within("ground ? 5 0", 0, 19, "0");
        within("ground 3 ? 7", 0, 999, "0");
        within("ground 3 5 ?", 0, 99, "0");
        for (String how : new String[] {" 0 1", " 1 1"}) {
            within("work ?" + how, 0, 19, "0");
        }
        for (String how : new String[] {" 0 0", " 1 0"}) {
            refusedBeyond("work ?" + how, 0, 19, "0");
        }
    }

    private static void ofWorlds() {
        within("world ? 0 9 2 3", 0, 99, "-1");
        within("world 30 ? 9 2 3", 0, 19, "-1");
        within("world 30 0 ? 2 3", 1, 99, "-1");
        within("world 30 0 9 ? 3", 1, 12, "-1");
        within("world 30 0 9 2 ?", 1, 99, "-1");
        within("lava ? 3 0 0", 0, 1, "-1000");
        within("lava 0 ? 0 0", 0, 12, "-1000");
        within("lava 0 3 ? 0", 0, 19, "-1000");
        within("lava 0 3 0 ?", 0, 1, "-1000");
        within("reached ? 0", 0, 1, "-1");
        within("reached 0 ?", 0, 19, "-1");
    }

    private static void ofPlaces() {
        within("town ? 9 2 1", 0, 19, "-1");
        within("town 3 ? 2 1", 1, 999, "-1");
        within("town 3 9 ? 1", 1, 4, "-1");
        within("town 3 9 2 ?", 0, 5, "-1");
        within("shelter ?", 0, 9999, "-1");
        within("road ? 1 2 9 2 0", 0, 2, "-1");
        within("road 1 ? 2 9 2 0", 0, 2, "-1");
        within("road 0 2 ? 9 2 0", 1, 5, "-1");
        within("road 0 2 2 ? 2 0", 1, 999, "-1");
        within("road 0 2 2 9 ? 0", 1, 6, "-1");
        within("road 0 2 2 9 2 ?", -1, 19, "-1");
        for (int place = 0; place <= 2; place++) {
            SOME.refuses("road " + place + " " + place + " 2 9 2 0", -1);
        }
    }

    private static void ofPeople() {
        within("ledOut ? 0", 0, 1, "-1");
        within("ledOut 0 ?", 0, 2, "-1");
        within("cut ? 0 20", 0, 0, "-1");
        within("cut ? 0 99", 1, 1, "-1");
        within("cut 0 ? 20", 0, 2, "-1");
        within("cut 0 0 ?", 8, 32, "-1");
        within("cut 1 0 ?", 87, 111, "-1");
    }

    private static void ofCosts() {
        within("cost ?", 0, 1, "-1");
        within("candidate ?", 0, 19, "-1");
        within("best ? 0", 0, 2, "-1");
        takenWithin("best 0 ?", 3, 4, "-1");
        refusedBeyond("best 0 ?", 0, 4, "-1");
        refusedBeyond("best 2 ?", 0, 4, "-1");
    }

    private static void ofWinds() {
        within("wind ? 3 3", 0, 123, "0");
        within("wind 20 ? 3", 0, 7, "0");
        within("wind 20 3 ?", 0, 7, "0");
        within("ash ? 0", 0, 1, "-1");
        within("ash 0 ?", 0, 19, "-1");
    }

    private static void ofLooksAndCounts() {
        within("look ? 0", 0, 19, Scene.NO_CELL);
        within("look 0 ?", 0, 2, Scene.NO_WHAT);
        refusedBeyond("look 20 ?", 0, 2, Scene.NO_CELL);
        within("count ?", 0, 10, "-1");
    }
}
