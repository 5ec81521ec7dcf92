import java.util.NoSuchElementException;

/** Promises 12 to 17 and 27 to 30: land, works, worlds, lava, winds, ash, looks and counts. */
public final class LandTest {
    public static void main(String[] args) {
        promise12Land();
        promise13Ground();
        promise14Work();
        promise15World();
        promise16Lava();
        lavaWithWorks();
        lavaAtEdges();
        promise17Reached();
        promise27Wind();
        promise28Ash();
        promise29Look();
        promise30Count();
        Check.end("LandTest");
    }

    private static void promise12Land() {
        VolcanoWatch x = new VolcanoWatch();
        Check.due("land(1, 2)", x.land(1, 2), false);
        Check.due("land(2, 1)", x.land(2, 1), false);
        Check.due("land(9, 8)", x.land(9, 8), false);
        Check.due("land(8, 9)", x.land(8, 9), false);
        Check.due("land(-2, -2)", x.land(-2, -2), false);
        Check.due("still 4 by 4: 15", x.ground(15, 1, 0), true);
        Check.due("still 4 by 4: 16", x.ground(16, 1, 0), false);
        Check.rules(x, "keep 3; level 1 1;");
        x.post(0);
        x.hours(4);
        x.read(0, 0, 5, false);
        x.wind(4, 2, 3);
        x.ground(1, 5, 6);
        x.work(2, false, true);
        x.world(4, 0, 10, 1, 1);
        x.town(0, 1, 1, 0);
        x.shelter(3);
        x.road(0, 1, 1, 1, 1, -1);
        x.candidate(3);
        x.feed(0, 0, 0, 0, 0);
        Check.due("land(9, 2) with all that", x.land(9, 2), false);
        Check.due("worlds stay then", x.count(6), 1);
        Check.due("land(4, 4)", x.land(4, 4), true);
        Check.due("height", x.look(1, 0), 0);
        Check.due("houses", x.look(1, 1), 0);
        Check.due("works", x.look(2, 2), 0);
        int[] counts = {4, 1, 1, 1, 3, 1, 0, 0, 0, 0, 0};
        for (int what = 0; what < counts.length; what++) {
            Check.due("count(" + what + ")", x.count(what), counts[what]);
        }
        Check.due("the tape stays", x.feed(0, 0, 0, 0, 0), 40);
        Check.due("the reading stays", x.reading(0, 0, 4), 5);
        Check.due("worlds from 0 on", x.world(4, 0, 10, 1, 1), 0);
        Check.due("winds stay", x.ash(0, 4), 5);
        Check.due("places from 0 on", x.shelter(3), 0);
        Check.due("a shelter's number is none of a town", x.warned(0), -1);
        Check.due("places from 0 on", x.town(0, 9, 1, 0), 1);
        Check.due("roads from 0 on", x.road(0, 1, 1, 1, 1, -1), 0);
        Check.due("candidates from 0 on", x.candidate(3), 0);
        Check.due("four works may stand again", x.work(2, false, true), true);
        Check.due("land(8, 8)", x.land(8, 8), true);
        Check.due("cell 63", x.ground(63, 999, 99), true);
        Check.due("cell 64", x.ground(64, 0, 0), false);
        Check.due("land(2, 8)", x.land(2, 8), true);
        Check.due("cell 15 of 2 by 8", x.ground(15, 0, 0), true);
        Check.due("cell 16 of 2 by 8", x.ground(16, 0, 0), false);
        Check.due("land(8, 2)", x.land(8, 2), true);
        Check.due("land(2, 2)", x.land(2, 2), true);
        Check.due("cell 4 of 2 by 2", x.ground(4, 0, 0), false);
    }

    private static void promise13Ground() {
        VolcanoWatch x = new VolcanoWatch();
        Check.due("ground(-1, ..)", x.ground(-1, 0, 0), false);
        Check.due("ground(16, ..)", x.ground(16, 0, 0), false);
        Check.due("height -1", x.ground(0, -1, 0), false);
        Check.due("height 1000", x.ground(0, 1000, 0), false);
        Check.due("houses -1", x.ground(0, 0, -1), false);
        Check.due("houses 100", x.ground(0, 0, 100), false);
        Check.due("999, 99", x.ground(0, 999, 99), true);
        Check.due("height", x.look(0, 0), 999);
        Check.due("houses", x.look(0, 1), 99);
        Check.due("0, 0", x.ground(0, 0, 0), true);
        Check.due("height 0", x.look(0, 0), 0);
        Check.due("houses 0", x.look(0, 1), 0);
        x.work(0, true, true);
        Check.due("houses in a trench", x.ground(0, 7, 1), false);
        Check.due("height stays", x.look(0, 0), 0);
        Check.due("no houses in a trench", x.ground(0, 7, 0), true);
        Check.due("height 7", x.look(0, 0), 7);
        x.work(0, true, false);
        Check.due("houses where a trench was", x.ground(0, 7, 1), true);
    }

    private static void promise14Work() {
        VolcanoWatch x = new VolcanoWatch();
        Check.due("work(-1)", x.work(-1, false, true), false);
        Check.due("work(16)", x.work(16, false, true), false);
        Check.due("work(16) off", x.work(16, false, false), false);
        Check.due("none to take", x.work(5, false, false), false);
        Check.due("a wall", x.work(5, false, true), true);
        Check.due("a wall again", x.work(5, false, true), false);
        Check.due("no trench to take", x.work(5, true, false), false);
        Check.due("its works", x.look(5, 2), 1);
        Check.due("a trench too", x.work(5, true, true), true);
        Check.due("both", x.look(5, 2), 3);
        Check.due("the wall away", x.work(5, false, false), true);
        Check.due("a trench alone", x.look(5, 2), 2);
        x.ground(6, 0, 1);
        Check.due("where houses are", x.work(6, true, true), false);
        Check.due("off where houses are", x.work(6, true, false), false);
        Check.due("2nd", x.work(7, true, true), true);
        Check.due("3rd", x.work(8, true, true), true);
        Check.due("4th", x.work(9, false, true), true);
        Check.due("5th", x.work(10, false, true), false);
        Check.due("5th at a cell with one", x.work(9, true, true), false);
        Check.due("count", x.count(10), 4);
        Check.due("away with one of 4", x.work(7, true, false), true);
        Check.due("count 3", x.count(10), 3);
        Check.due("4th again", x.work(10, false, true), true);
        Check.due("count 4", x.count(10), 4);
    }

    private static void promise15World() {
        VolcanoWatch x = new VolcanoWatch();
        int[][] wrong = {{-1, 0, 1, 1, 1}, {100, 0, 1, 1, 1}, {0, -1, 1, 1, 1}, {0, 16, 1, 1, 1}, {0, 0, 0, 1, 1},
            {0, 0, 100, 1, 1}, {0, 0, 1, 0, 1}, {0, 0, 1, 13, 1}, {0, 0, 1, 1, 0}, {0, 0, 1, 1, 100}};
        for (int[] w : wrong) {
            Check.due("world " + java.util.Arrays.toString(w), x.world(w[0], w[1], w[2], w[3], w[4]), -1);
        }
        Check.due("least", x.world(0, 0, 1, 1, 1), 0);
        Check.due("most", x.world(99, 15, 99, 12, 99), 1);
        Check.due("third", x.world(50, 7, 9, 2, 2), 2);
        Check.due("fourth", x.world(50, 7, 9, 2, 2), -1);
        Check.due("count", x.count(6), 3);
    }

    private static void lavas(VolcanoWatch x, int step, int[] lava, int[] ground) {
        for (int cell = 0; cell < lava.length; cell++) {
            Check.due("lava behind " + step + " of " + cell, x.lava(0, step, cell, 0), lava[cell]);
            Check.due("ground behind " + step + " of " + cell, x.lava(0, step, cell, 1), ground[cell]);
        }
    }

    private static void promise16Lava() {
        VolcanoWatch x = new VolcanoWatch();
        x.land(2, 2);
        Check.due("no world", x.lava(0, 0, 0, 0), -1000);
        x.world(0, 3, 2, 2, 1);
        Check.due("world -1", x.lava(-1, 0, 0, 0), -1000);
        Check.due("world 1", x.lava(1, 0, 0, 0), -1000);
        Check.due("step -1", x.lava(0, -1, 0, 0), -1000);
        Check.due("step 13", x.lava(0, 13, 0, 0), -1000);
        Check.due("cell -1", x.lava(0, 0, -1, 0), -1000);
        Check.due("cell 4", x.lava(0, 0, 4, 0), -1000);
        Check.due("what -1", x.lava(0, 0, 0, -1), -1000);
        Check.due("what 2", x.lava(0, 0, 0, 2), -1000);
        lavas(x, 0, new int[] {0, 0, 0, 0}, new int[] {0, 0, 0, 0});
        // 2 come to cell 3, which is 2 higher than 1 and 2 and gives 1 to the least of them
        lavas(x, 1, new int[] {0, 1, 0, 1}, new int[] {0, 0, 0, 0});
        // 2 more: 3 is 3 higher than 2 and gives the half, downwards; 1 neither gives nor gets
        lavas(x, 2, new int[] {0, 0, 1, 2}, new int[] {0, 1, 0, 0});
        // no more come, and none is higher by 2
        lavas(x, 3, new int[] {0, 0, 0, 1}, new int[] {0, 1, 1, 1});
        // 3 stands at 2, 1 higher than its neighbours
        lavas(x, 4, new int[] {0, 0, 0, 0}, new int[] {0, 1, 1, 2});
        lavas(x, 12, new int[] {0, 0, 0, 0}, new int[] {0, 1, 1, 2});
        x.world(0, 0, 99, 12, 1);
        int all = 0;
        for (int cell = 0; cell < 4; cell++) {
            all += x.lava(1, 12, cell, 0) + x.lava(1, 12, cell, 1);
        }
        Check.due("nothing is lost of 12 times 99", all, 12 * 99);
    }

    private static void lavaWithWorks() {
        VolcanoWatch x = new VolcanoWatch();
        x.land(2, 2);
        x.ground(0, 10, 0);
        x.world(0, 0, 1, 1, 1);
        // 11 higher than 1 and 2, but there is but 1 to give
        lavas(x, 1, new int[] {0, 1, 0, 0}, new int[] {10, 0, 0, 0});
        lavas(x, 2, new int[] {0, 0, 0, 0}, new int[] {10, 1, 0, 0});
        x.work(1, false, true);
        lavas(x, 0, new int[] {0, 0, 0, 0}, new int[] {10, 8, 0, 0});
        lavas(x, 1, new int[] {0, 0, 1, 0}, new int[] {10, 8, 0, 0});
        x.work(1, true, true);
        lavas(x, 1, new int[] {0, 1, 0, 0}, new int[] {10, 0, 0, 0});
        x.work(1, false, false);
        lavas(x, 1, new int[] {0, 1, 0, 0}, new int[] {10, -8, 0, 0});
        x.ground(2, 3, 0);
        x.work(2, true, true);
        x.ground(1, 999, 0);
        lavas(x, 1, new int[] {0, 0, 1, 0}, new int[] {10, 991, -5, 0});
    }

    private static void lavaAtEdges() {
        VolcanoWatch x = new VolcanoWatch();
        x.land(3, 2);
        for (int cell = 0; cell < 6; cell++) {
            x.ground(cell, cell == 2 ? 50 : cell == 3 ? 0 : 100, 0);
        }
        x.world(0, 2, 10, 1, 1);
        Check.due("rows' ends don't touch", x.lava(0, 1, 2, 0), 10);
        Check.due("what came to the vent counts as got", x.lava(0, 1, 2, 1), 50);
        Check.due("it cools then", x.lava(0, 2, 2, 0), 9);
        Check.due("it cools to ground", x.lava(0, 12, 2, 1), 60);
        Check.due("to the last", x.lava(0, 11, 2, 0), 0);
        x.land(3, 3);
        x.world(0, 4, 8, 12, 1);
        x.ground(1, 5, 0);
        x.ground(3, 5, 0);
        Check.due("down to the lowest: right", x.lava(0, 1, 5, 0), 4);
        x.ground(5, 1, 0);
        Check.due("down to the lowest: below", x.lava(0, 1, 7, 0), 4);
        x.ground(7, 1, 0);
        Check.due("of like ones the least", x.lava(0, 1, 5, 0), 3);
        x.ground(3, 1, 0);
        Check.due("of like ones the least: left", x.lava(0, 1, 3, 0), 3);
        x.ground(1, 1, 0);
        Check.due("of like ones the least: above", x.lava(0, 1, 1, 0), 3);
        Check.due("none across", x.lava(0, 1, 0, 0), 0);
        Check.due("the vent keeps the rest", x.lava(0, 1, 4, 0), 5);
        x.land(8, 8);
        x.world(0, 63, 99, 12, 1);
        Check.due("to the left", x.lava(0, 2, 62, 0) > 0, true);
        Check.due("to above", x.lava(0, 1, 55, 0), 49);
        int all = 0;
        for (int cell = 0; cell < 64; cell++) {
            all += x.lava(0, 12, cell, 0) + x.lava(0, 12, cell, 1);
        }
        Check.due("nothing is lost of 12 times 99", all, 12 * 99);
    }

    private static void promise17Reached() {
        VolcanoWatch x = new VolcanoWatch();
        x.land(4, 2);
        int[] heights = {30, 20, 10, 0, 999, 999, 999, 999};
        for (int cell = 0; cell < 8; cell++) {
            x.ground(cell, heights[cell], 0);
        }
        Check.due("no world", x.reached(0, 0), -1);
        x.world(7, 0, 10, 1, 1);
        int[] reached = {1, 1, 2, 3, 13, 13, 13, 13};
        for (int cell = 0; cell < 8; cell++) {
            Check.due("reached of " + cell, x.reached(0, cell), reached[cell]);
        }
        Check.due("the vent gave all of it away", x.lava(0, 1, 0, 0), 0);
        Check.due("world -1", x.reached(-1, 0), -1);
        Check.due("world 1", x.reached(1, 0), -1);
        Check.due("cell -1", x.reached(0, -1), -1);
        Check.due("cell 8", x.reached(0, 8), -1);
        x.ground(2, 40, 0);
        Check.due("reached over a hill", x.reached(0, 3), 13);
        // 2 a step into a hole of 24: it goes over in the 12th
        x.land(2, 2);
        x.ground(1, 22, 0);
        x.ground(2, 999, 0);
        x.world(0, 0, 2, 12, 1);
        Check.due("in the 12th step", x.reached(0, 1), 12);
        x.ground(1, 23, 0);
        Check.due("not in 12 steps", x.reached(0, 1), 13);
    }

    private static void promise27Wind() {
        VolcanoWatch x = new VolcanoWatch();
        int[][] wrong = {{-1, 0, 0}, {124, 0, 0}, {0, -1, 0}, {0, 8, 0}, {0, 0, -1}, {0, 0, 8}};
        for (int[] w : wrong) {
            Check.due("wind " + java.util.Arrays.toString(w), x.wind(w[0], w[1], w[2]), false);
        }
        Check.due("wind(0, 0, 0)", x.wind(0, 0, 0), true);
        Check.due("wind(123, 7, 7)", x.wind(123, 7, 7), true);
        x.world(0, 0, 40, 1, 1);
        x.wind(0, 0, 3);
        Check.due("told", x.ash(0, 3), 5);
        x.wind(0, 2, 1);
        Check.due("told anew", x.ash(0, 3), 0);
        Check.due("told anew", x.ash(0, 4), 20);
        Check.due("as far as told", x.ash(0, 8), 0);
        x.wind(0, 9, 3);
        Check.due("a wrong one changes nothing", x.ash(0, 4), 20);
    }

    private static void promise28Ash() {
        VolcanoWatch x = new VolcanoWatch();
        x.land(8, 8);
        x.world(5, 27, 13, 1, 1);
        int[] offsets = {1, 9, 8, 7, -1, -9, -8, -7};
        for (int direction = 0; direction < 8; direction++) {
            x.wind(5, direction, 2);
            for (int other = 0; other < 8; other++) {
                int once = other == direction ? 6 : 0;
                int twice = other == direction ? 3 : 0;
                Check.due("wind " + direction + " to " + other, x.ash(0, 27 + offsets[other]), once);
                Check.due("wind " + direction + " twice to " + other, x.ash(0, 27 + 2 * offsets[other]), twice);
                Check.due("wind " + direction + " beyond", x.ash(0, 27 + 3 * offsets[other]), 0);
            }
            Check.due("at the vent", x.ash(0, 27), 13);
        }
        Check.due("world -1", x.ash(-1, 0), -1);
        Check.due("world 1", x.ash(1, 0), -1);
        Check.due("cell -1", x.ash(0, -1), -1);
        Check.due("cell 64", x.ash(0, 64), -1);
        x.world(99, 7, 99, 12, 1);
        for (int hour = 98; hour <= 111; hour++) {
            x.wind(hour, hour % 2 == 0 ? 4 : 3, hour % 2 == 0 ? 7 : 1);
        }
        Check.due("of the hours 99 .. 110: at the vent", x.ash(1, 7), 12 * 99);
        Check.due("1 step by even hours", x.ash(1, 6), 6 * 49);
        Check.due("5 steps", x.ash(1, 2), 6 * 3);
        Check.due("6 steps", x.ash(1, 1), 6);
        Check.due("7 steps: too little", x.ash(1, 0), 0);
        Check.due("1 step by odd hours", x.ash(1, 14), 6 * 49);
        Check.due("not round the land's side", x.ash(1, 8), 0);
        x.wind(98, 2, 7);
        x.wind(111, 2, 7);
        Check.due("not of the hours about", x.ash(1, 15), 0);
    }

    private static int lookKind(VolcanoWatch x, int cell, int what) {
        try {
            x.look(cell, what);
            return 0;
        } catch (IndexOutOfBoundsException e) {
            return e.getClass() == IndexOutOfBoundsException.class ? 1 : 3;
        } catch (NoSuchElementException e) {
            return e.getClass() == NoSuchElementException.class ? 2 : 3;
        }
    }

    private static void promise29Look() {
        VolcanoWatch x = new VolcanoWatch();
        x.ground(3, 44, 0);
        x.ground(4, 55, 6);
        x.work(3, true, true);
        Check.due("height with a trench", x.look(3, 0), 44);
        Check.due("houses", x.look(3, 1), 0);
        Check.due("works", x.look(3, 2), 2);
        Check.due("height", x.look(4, 0), 55);
        Check.due("houses", x.look(4, 1), 6);
        Check.due("works", x.look(4, 2), 0);
        Check.due("cell -1", lookKind(x, -1, 0), 1);
        Check.due("cell 16", lookKind(x, 16, 2), 1);
        Check.due("cell 16, what 3", lookKind(x, 16, 3), 1);
        Check.due("what -1", lookKind(x, 15, -1), 2);
        Check.due("what 3", lookKind(x, 0, 3), 2);
        Check.due("neither", lookKind(x, 15, 2), 0);
    }

    private static void promise30Count() {
        VolcanoWatch x = new VolcanoWatch();
        x.hours(1);
        x.post(0);
        x.post(1);
        for (int i = 0; i < 3; i++) {
            x.read(0, 1, i, i == 1);
        }
        Check.rules(x, times(4, "level 1 1 + 1;") + "keep 5;");
        x.world(0, 0, 1, 1, 1);
        x.world(0, 0, 1, 1, 1);
        for (int i = 0; i < 3; i++) {
            x.town(i, 1, 1, 1);
        }
        x.shelter(1);
        for (int i = 0; i < 5; i++) {
            x.road(0, 3, 1, 1, 1, -1);
        }
        x.candidate(0);
        x.work(0, true, true);
        x.work(1, true, true);
        x.work(1, false, true);
        int[] counts = {1, 2, 3, 4, 5, 12, 2, 4, 5, 1, 3};
        for (int what = 0; what < counts.length; what++) {
            Check.due("count(" + what + ")", x.count(what), counts[what]);
        }
        Check.due("count(-1)", x.count(-1), -1);
        Check.due("count(11)", x.count(11), -1);
    }

    private static String times(int n, String text) {
        return text.repeat(n);
    }
}
