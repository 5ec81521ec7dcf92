/** The boundaries of parts 3 and 6 of the document and of promises 12 to 17 and 27 to 30. */
public final class EdgesOfLandTest {
    public static void main(String[] args) {
        everySizeOfLand();
        sizesRefused();
        anotherLandHasNothing();
        heightsAndHouses();
        housesWhereWorksAre();
        worksWhereHousesAre();
        eachWorkOnce();
        fourWorks();
        worksAndGround();
        threeWorlds();
        lastingOfLava();
        higherByTwo();
        noMoreThanItsLava();
        likeOnesTheLeast();
        sidesOfTheLand();
        everyCellBeside();
        allAtOnce();
        coolingToRock();
        theGreatestRate();
        reachedFirstAndNever();
        windsOfHours();
        hoursOfAsh();
        stepsOfAsh();
        ashStaysOnTheLand();
        looksAtEdges();
        countsAtEdges();
        Check.end("EdgesOfLandTest");
    }

    /** LAND of W by H CELLS (2 .. 8 each), numbered by rows. */
    private static void everySizeOfLand() {
        for (int w = 2; w <= 8; w++) {
            for (int h = 2; h <= 8; h++) {
                int last = w * h - 1;
                VolcanoWatch x = new VolcanoWatch();
                Check.due("land(" + w + ", " + h + ")", x.land(w, h), true);
                Check.due("its last cell", x.ground(last, 7, 3), true);
                Check.due("the height of its last cell", x.look(last, 0), 7);
                Check.due("a cell more", x.ground(last + 1, 0, 0), false);
                Check.due("the look of a cell more", Scene.answer(x, "look " + (last + 1) + " 0"), Scene.NO_CELL);
                Check.due("a vent in a cell more", x.world(0, last + 1, 1, 1, 1), -1);
                Check.due("a vent in its last cell", x.world(0, last, 40, 1, 1), 0);
                Check.due("reached of a cell more", x.reached(0, last + 1), -1);
                Check.due("lava of a cell more", x.lava(0, 1, last + 1, 0), -1000);
                Check.due("ash of a cell more", x.ash(0, last + 1), -1);
                // of the cells above and to the left, both at 0, that above has the least number
                Check.due("the cell above is a row ahead", x.lava(0, 1, last - w, 0), 23);
                Check.due("a work in a cell more", x.work(last + 1, true, true), false);
                Check.due("a work in its first cell", x.work(0, true, true), true);
                Check.due("a town in a cell more", x.town(last + 1, 1, 1, 0), -1);
                Check.due("a town in its last cell", x.town(last, 1, 1, 0), 0);
                Check.due("a candidate in a cell more", x.candidate(last + 1), -1);
                Check.due("a candidate in its last cell", x.candidate(last), 0);
                x.shelter(1);
                Check.due("a road over a cell more", x.road(0, 1, 1, 1, 1, last + 1), -1);
                Check.due("a road over its last cell", x.road(0, 1, 1, 1, 1, last), 0);
            }
        }
    }

    private static void sizesRefused() {
        Scene some = Scene.of("ground 15 3 4", "world 3 2 9 1 1", "work 1 0 1", "candidate 5", "town 0 5 1 0",
            "shelter 3", "road 0 1 1 1 1 -1");
        int[] wrong = {Integer.MIN_VALUE, -8, -4, -2, -1, 0, 1, 9, 10, 16, 260, Integer.MAX_VALUE};
        for (int size : wrong) {
            some.refuses("land " + size + " 4", 0);
            some.refuses("land 4 " + size, 0);
            some.refuses("land " + size + " " + size, 0);
        }
        // 65536 by 65536 and 2 to the 30 by 4 wrap round to 0
        some.refuses("land 65536 65536", 0);
        some.refuses("land 1073741824 4", 0);
        some.refuses("land 16 1", 0);
        some.refuses("land 1 16", 0);
    }

    /** Promise 12: nothing on it, no WORKS, WORLDS, TOWNS, SHELTERS, ROADS, CANDIDATES; the others stay. */
    private static void anotherLandHasNothing() {
        Scene full = Scene.of("rules keep 2; level 1 1;", "post 0", "hours 1", "read 0 1 5 0", "wind 3 0 7", "land 8 8");
        for (int cell = 0; cell < 64; cell++) {
            full = full.and("ground " + cell + " 999 " + (cell < 60 ? 99 : 0));
        }
        full = full.and("work 60 0 1", "work 61 0 1", "work 62 1 1", "work 63 1 1");
        full = full.times(3, "world 3 0 64 1 9").times(4, "town 1 9 1 0").times(4, "shelter 9");
        full = full.times(14, "road 0 4 1 9 1 1").and("candidate 60", "candidate 61", "candidate 62", "candidate 63",
            "candidate 1", "candidate 2", "count 6 = 3", "count 7 = 8", "count 8 = 14", "count 9 = 6", "count 10 = 4");
        for (String size : new String[] {"land 8 8 = 1", "land 2 8 = 1", "land 4 4 = 1"}) {
            Scene next = full.and(size);
            int[] counts = {1, 1, 1, 1, 2, 1, 0, 0, 0, 0, 0};
            for (int what = 0; what < counts.length; what++) {
                next.answers("count " + what, counts[what]);
            }
            for (int cell = 0; cell < (size.equals("land 8 8 = 1") ? 64 : 16); cell++) {
                next.answers("look " + cell + " 0", 0);
                next.answers("look " + cell + " 1", 0);
                next.answers("look " + cell + " 2", 0);
            }
            next.answers("reading 0 1 1", 5);
            next.answers("level 0", 1);
            next.answers("cost 0", 0);
            next.answers("cost 1", 0);
            next.answers("best 2 0", 0);
            next.answers("warned 0", -1);
            next.answers("ledOut 0 0", -1);
            next.answers("lava 0 0 0 0", -1000);
            next.answers("world 3 0 64 1 9", 0);
            next.and("world 3 0 64 1 9").answers("ash 0 1", 32);
            next.and("world 3 0 64 1 9").answers("lava 0 0 0 1", 0);
            next.and("world 3 0 64 1 9").answers("ledOut 0 2", 0);
            next.and("world 3 0 64 1 9").answers("ledOut 0 1", 0);
            next.answers("town 1 9 1 0", 0);
            next.answers("shelter 9", 0);
            next.and("shelter 9", "shelter 9").answers("road 0 1 1 1 1 -1", 0);
            next.answers("candidate 3", 0);
            next.and("work 0 0 1 = 1", "work 0 1 1 = 1", "work 1 0 1 = 1").answers("work 1 1 1", 1);
        }
        Scene.of("text keep 7;", "land 3 3").answers("rules 7", 1);
    }

    private static void heightsAndHouses() {
        Scene some = Scene.of("ground 3 20 6", "world 0 3 9 1 1");
        int[][] right = {{0, 0}, {999, 99}, {0, 99}, {999, 0}, {1, 1}};
        for (int[] of : right) {
            Scene then = some.and("ground 3 " + of[0] + " " + of[1] + " = 1");
            then.answers("look 3 0", of[0]);
            then.answers("look 3 1", of[1]);
            then.answers("lava 0 0 3 1", of[0]);
            then.answers("ledOut 0 2", of[1]);
        }
        int[] wrong = {Integer.MIN_VALUE, -1, 1000, Integer.MAX_VALUE};
        for (int number : wrong) {
            some.refuses("ground 3 " + number + " 5", 0);
            some.refuses("ground 3 5 " + number, 0);
            some.refuses("ground 3 " + number + " " + number, 0);
            some.refuses("ground " + number + " 5 5", 0);
        }
        some.refuses("ground 3 5 100", 0);
        some.refuses("ground 16 5 5", 0);
    }

    /** Promise 13: false: HOUSES where WORKS are. */
    private static void housesWhereWorksAre() {
        for (String works : new String[] {"work 3 0 1 = 1", "work 3 1 1 = 1"}) {
            Scene built = Scene.of("ground 3 20 0", works);
            built.refuses("ground 3 20 1", 0);
            built.refuses("ground 3 30 99", 0);
            built.answers("ground 3 30 0", 1);
            built.and("ground 3 30 0").answers("look 3 0", 30);
            built.answers("ground 2 30 1", 1);
            built.and(works.replace(" 1 = 1", " 0 = 1")).answers("ground 3 30 1", 1);
        }
        Scene both = Scene.of("work 3 0 1 = 1", "work 3 1 1 = 1");
        both.refuses("ground 3 0 1", 0);
        both.and("work 3 0 0 = 1").refuses("ground 3 0 1", 0);
        both.and("work 3 1 0 = 1").refuses("ground 3 0 1", 0);
        both.and("work 3 1 0 = 1", "work 3 0 0 = 1").answers("ground 3 0 1", 1);
    }

    /** WORKS: none where HOUSES are. */
    private static void worksWhereHousesAre() {
        for (int houses : new int[] {1, 99}) {
            Scene town = Scene.of("ground 3 20 " + houses);
            town.refuses("work 3 0 1", 0);
            town.refuses("work 3 1 1", 0);
            town.refuses("work 3 0 0", 0);
            town.refuses("work 3 1 0", 0);
            town.answers("work 2 0 1", 1);
            town.and("ground 3 20 0").answers("work 3 0 1", 1);
        }
        Scene.of("ground 3 20 0").answers("work 3 0 1", 1);
        Scene.of("ground 3 20 0").answers("work 3 1 1", 1);
    }

    /** Each once at most; promise 14: false: it is so already. */
    private static void eachWorkOnce() {
        Scene none = Scene.of("ground 3 20 0");
        none.refuses("work 3 0 0", 0);
        none.refuses("work 3 1 0", 0);
        Scene wall = none.and("work 3 0 1 = 1");
        wall.refuses("work 3 0 1", 0);
        wall.refuses("work 3 1 0", 0);
        wall.answers("work 3 1 1", 1);
        wall.answers("work 3 0 0", 1);
        wall.and("work 3 0 0").refuses("work 3 0 0", 0);
        Scene trench = none.and("work 3 1 1 = 1");
        trench.refuses("work 3 1 1", 0);
        trench.refuses("work 3 0 0", 0);
        trench.answers("work 3 0 1", 1);
        Scene both = wall.and("work 3 1 1 = 1");
        both.refuses("work 3 0 1", 0);
        both.refuses("work 3 1 1", 0);
        both.answers("look 3 2", 3);
        both.and("work 3 0 0").answers("look 3 2", 2);
        both.and("work 3 1 0").answers("look 3 2", 1);
        both.and("work 3 1 0", "work 3 0 0").answers("look 3 2", 0);
        both.and("work 3 1 0", "work 3 0 0").answers("count 10", 0);
    }

    /** At most 4 in all. */
    private static void fourWorks() {
        Scene three = Scene.of("work 0 0 1 = 1", "work 0 1 1 = 1", "work 15 0 1 = 1");
        three.answers("work 7 0 1", 1);
        three.answers("work 7 1 1", 1);
        three.answers("work 15 1 1", 1);
        Scene four = three.and("work 15 1 1 = 1");
        four.answers("count 10", 4);
        for (int cell : new int[] {0, 1, 7, 15}) {
            four.refuses("work " + cell + " 0 1", 0);
            four.refuses("work " + cell + " 1 1", 0);
        }
        four.refuses("work 7 0 0", 0);
        four.answers("work 0 0 0", 1);
        four.answers("work 15 1 0", 1);
        Scene threeAgain = four.and("work 0 1 0 = 1");
        threeAgain.answers("count 10", 3);
        threeAgain.answers("work 7 1 1", 1);
        threeAgain.and("work 7 1 1").refuses("work 0 1 1", 0);
    }

    private static void worksAndGround() {
        Scene world = Scene.of("ground 3 0 0", "ground 4 999 0", "world 0 9 1 1 1");
        world.and("work 3 1 1").answers("lava 0 0 3 1", -8);
        world.and("work 3 0 1").answers("lava 0 0 3 1", 8);
        world.and("work 3 0 1", "work 3 1 1").answers("lava 0 0 3 1", 0);
        world.and("work 4 0 1").answers("lava 0 0 4 1", 1007);
        world.and("work 4 1 1").answers("lava 0 0 4 1", 991);
        world.and("work 4 1 1").answers("look 4 0", 999);
        world.and("work 4 1 1", "work 4 1 0").answers("lava 0 0 4 1", 999);
        world.and("work 3 1 1", "ground 3 10 0").answers("lava 0 0 3 1", 2);
        world.and("work 3 1 1").answers("lava 0 12 3 1", -8);
    }

    /** WORLDS, at most 3, numbered from 0 on. */
    private static void threeWorlds() {
        Scene two = Scene.of("world 0 0 1 1 1 = 0", "world 99 15 99 12 99 = 1");
        two.answers("world 5 3 2 2 2", 2);
        two.refuses("lava 2 0 0 0", -1000);
        two.refuses("reached 2 0", -1);
        two.refuses("ash 2 0", -1);
        two.refuses("ledOut 2 0", -1);
        Scene three = two.and("shelter 1", "world 5 3 2 2 2 = 2");
        three.refuses("world 5 3 2 2 2", -1);
        three.refuses("world 0 0 1 1 1", -1);
        three.refuses("world 100 0 1 1 1", -1);
        three.answers("count 6", 3);
        three.answers("reached 2 3", 1);
        three.refuses("reached 3 3", -1);
        three.refuses("lava 3 0 0 0", -1000);
        three.refuses("ash 3 0", -1);
        three.refuses("ledOut 3 0", -1);
        three.refuses("cut 3 0 0", -1);
        three.and("land 4 4").answers("world 5 3 2 2 2", 0);
    }

    /** The vent in cell 0, 0 high, with walls of 999 about. */
    private static Scene basin(int rate, int lasting) {
        return Scene.of("land 2 2", "ground 1 999 0", "ground 2 999 0", "world 0 0 " + rate + " " + lasting + " 1");
    }

    /** RATE comes to the VENT in the first LASTING steps; what neither gave nor got cools by one. */
    private static void lastingOfLava() {
        for (int lasting = 1; lasting <= 12; lasting++) {
            VolcanoWatch x = basin(7, lasting).make();
            for (int step = 0; step <= 12; step++) {
                int come = 7 * Math.min(step, lasting);
                int cooled = Math.min(come, Math.max(0, step - lasting));
                Check.due("lava behind " + step + " of " + lasting, x.lava(0, step, 0, 0), come - cooled);
                Check.due("ground behind " + step + " of " + lasting, x.lava(0, step, 0, 1), cooled);
            }
            Check.due("step -1", x.lava(0, -1, 0, 0), -1000);
            Check.due("step 13", x.lava(0, 13, 0, 0), -1000);
        }
        VolcanoWatch one = basin(1, 1).make();
        int[] lava = {0, 1, 0, 0};
        for (int step = 0; step < lava.length; step++) {
            Check.due("one of lava behind " + step, one.lava(0, step, 0, 0), lava[step]);
            Check.due("one of ground behind " + step, one.lava(0, step, 0, 1), step < 2 ? 0 : 1);
        }
        Check.due("no more cools than there is", one.lava(0, 12, 0, 1), 1);
    }

    /** It gives if its own TOP is higher by 2 or more: the half of how much higher it is, downwards. */
    private static void higherByTwo() {
        // by how much cell 1 is lower than the top of the vent's 50, and what it gets
        int[][] dues = {{-1, 0}, {0, 0}, {1, 0}, {2, 1}, {3, 1}, {4, 2}, {5, 2}, {49, 24}, {50, 25}};
        for (int[] due : dues) {
            VolcanoWatch x = Scene.of("land 2 2", "ground 1 " + (50 - due[0]) + " 0", "ground 2 999 0",
                "world 0 0 50 1 1").make();
            Check.due("higher by " + due[0], x.lava(0, 1, 1, 0), due[1]);
            Check.due("it keeps", x.lava(0, 1, 0, 0), 50 - due[1]);
            Check.due("reached", x.reached(0, 1) == 1, due[1] > 0);
            Check.due("ground stays where it came", x.lava(0, 1, 0, 1), 0);
        }
    }

    /** .. but no more than its LAVA. */
    private static void noMoreThanItsLava() {
        // the vent 10 high with 8 of lava above a cell 2 or less high: half of 16, of 17, of 18
        int[][] dues = {{3, 7}, {2, 8}, {1, 8}, {0, 8}};
        for (int[] due : dues) {
            VolcanoWatch x = Scene.of("land 2 2", "ground 0 10 0", "ground 1 " + due[0] + " 0", "ground 2 999 0",
                "world 0 0 8 1 1").make();
            Check.due("into " + due[0], x.lava(0, 1, 1, 0), due[1]);
            Check.due("left", x.lava(0, 1, 0, 0), 8 - due[1]);
            Check.due("none becomes ground", x.lava(0, 1, 0, 1), 10);
        }
        VolcanoWatch deep = Scene.of("land 2 2", "ground 0 999 0", "work 0 0 1", "work 1 1 1", "world 0 0 1 1 1").make();
        Check.due("from the highest to the lowest", deep.lava(0, 1, 1, 0), 1);
        Check.due("it lies there", deep.lava(0, 2, 1, 1), -7);
    }

    private static void likeOnesTheLeast() {
        // of the cells about 4: above 1, left 3, right 5, below 7
        int[] about = {1, 3, 5, 7};
        for (int set = 1; set < 16; set++) {
            VolcanoWatch x = new VolcanoWatch();
            x.land(3, 3);
            int least = -1;
            for (int i = 3; i >= 0; i--) {
                boolean low = (set >> i & 1) == 1;
                x.ground(about[i], low ? 5 : 6, 0);
                least = low ? about[i] : least;
            }
            x.world(0, 4, 20, 1, 1);
            for (int cell : about) {
                Check.due("set " + set + ", cell " + cell, x.lava(0, 1, cell, 0), cell == least ? 7 : 0);
            }
            for (int cell = 0; cell <= 8; cell += 2) {
                Check.due("set " + set + ", cell " + cell, x.lava(0, 1, cell, 0), cell == 4 ? 13 : 0);
            }
        }
    }

    /** CELLS beside, above and below: none across a side of the land. */
    private static void sidesOfTheLand() {
        // 4 by 3: the last of a row and the first of the next touch in number only
        Scene right = Scene.of("land 4 3", "ground 3 500 0", "ground 2 999 0", "ground 7 999 0", "world 0 3 50 1 1");
        right.answers("lava 0 1 4 0", 0);
        right.answers("lava 0 1 3 0", 50);
        Scene left = Scene.of("land 4 3", "ground 4 500 0", "ground 0 999 0", "ground 5 999 0", "ground 8 999 0",
            "world 0 4 50 1 1");
        left.answers("lava 0 1 3 0", 0);
        left.answers("lava 0 1 4 0", 50);
        Scene top = Scene.of("land 4 3", "ground 1 500 0", "ground 0 999 0", "ground 2 999 0", "ground 5 999 0",
            "world 0 1 50 1 1");
        top.answers("lava 0 1 9 0", 0);
        top.answers("lava 0 1 1 0", 50);
        Scene bottom = Scene.of("land 4 3", "ground 10 500 0", "ground 9 999 0", "ground 11 999 0", "ground 6 999 0",
            "world 0 10 50 1 1");
        bottom.answers("lava 0 1 2 0", 0);
        bottom.answers("lava 0 1 10 0", 50);
        int[] corners = {0, 3, 8, 11};
        int[] into = {1, 2, 4, 7};
        for (int i = 0; i < 4; i++) {
            Scene.of("land 4 3", "world 0 " + corners[i] + " 50 1 1").answers("lava 0 1 " + into[i] + " 0", 25);
        }
    }

    /** Each CELL of a land finds each CELL beside, above and below it. */
    private static void everyCellBeside() {
        int[] away = {-4, -1, 1, 4};
        for (int vent = 0; vent < 12; vent++) {
            for (int step : away) {
                int to = vent + step;
                boolean beside = to >= 0 && to < 12 && (Math.abs(step) == 4 || to / 4 == vent / 4);
                if (!beside) {
                    continue;
                }
                VolcanoWatch x = new VolcanoWatch();
                x.land(4, 3);
                for (int cell = 0; cell < 12; cell++) {
                    x.ground(cell, cell == vent ? 100 : cell == to ? 50 : 999, 0);
                }
                x.world(0, vent, 10, 1, 1);
                Check.due("from " + vent + " to " + to, x.lava(0, 1, to, 0), 10);
                Check.due("left in " + vent, x.lava(0, 1, vent, 0), 0);
            }
        }
    }

    /** Then, all at once: what comes in a step isn't given on in it. */
    private static void allAtOnce() {
        VolcanoWatch x = Scene.of("land 3 2", "ground 0 100 0", "ground 1 50 0", "ground 3 999 0", "ground 4 999 0",
            "ground 5 999 0", "world 0 0 8 2 1").make();
        int[][] lava = {{0, 0, 0}, {0, 8, 0}, {0, 8, 8}, {0, 0, 16}};
        for (int step = 0; step < lava.length; step++) {
            for (int cell = 0; cell < 3; cell++) {
                Check.due("lava behind " + step + " of " + cell, x.lava(0, step, cell, 0), lava[step][cell]);
            }
        }
        Check.due("who got does not cool", x.lava(0, 3, 2, 1), 0);
        Check.due("then it cools", x.lava(0, 4, 2, 1), 1);
    }

    /** One of its LAVA becomes GROUND where it neither gave nor got. */
    private static void coolingToRock() {
        // two cells with 1 and 1 beside each other, then nothing moves
        VolcanoWatch x = Scene.of("land 2 2", "ground 2 999 0", "ground 3 999 0", "world 0 0 2 1 1").make();
        int[][] dues = {{1, 1, 1, 0, 0}, {2, 0, 0, 1, 1}, {3, 0, 0, 1, 1}, {12, 0, 0, 1, 1}};
        for (int[] due : dues) {
            Check.due("lava of 0 behind " + due[0], x.lava(0, due[0], 0, 0), due[1]);
            Check.due("lava of 1 behind " + due[0], x.lava(0, due[0], 1, 0), due[2]);
            Check.due("ground of 0 behind " + due[0], x.lava(0, due[0], 0, 1), due[3]);
            Check.due("ground of 1 behind " + due[0], x.lava(0, due[0], 1, 1), due[4]);
        }
        // 20 in cell 0, 10 in each of 0 and 1, then 5 everywhere: who gave keeps all the rest, who got too
        VolcanoWatch wide = Scene.of("land 2 2", "world 0 0 20 1 1").make();
        int[][] lava = {{0, 0, 0, 0}, {10, 10, 0, 0}, {5, 5, 5, 5}, {4, 4, 4, 4}, {3, 3, 3, 3}};
        int[] ground = {0, 0, 0, 1, 2};
        for (int step = 0; step < lava.length; step++) {
            for (int cell = 0; cell < 4; cell++) {
                Check.due("lava of " + cell + " behind " + step, wide.lava(0, step, cell, 0), lava[step][cell]);
                Check.due("ground of " + cell + " behind " + step, wide.lava(0, step, cell, 1), ground[step]);
            }
        }
        Check.due("all of it is rock behind the 7th", wide.lava(0, 7, 3, 0), 0);
        Check.due("rock", wide.lava(0, 7, 3, 1), 5);
        Check.due("and stays so", wide.lava(0, 12, 3, 1), 5);
    }

    private static void theGreatestRate() {
        for (int size : new int[] {2, 8}) {
            VolcanoWatch x = Scene.of("land " + size + " " + size, "world 99 0 99 12 99").make();
            int sum = 0;
            for (int cell = 0; cell < size * size; cell++) {
                sum += x.lava(0, 12, cell, 0) + x.lava(0, 12, cell, 1);
            }
            Check.due("all of 12 times 99 on " + size + " by " + size, sum, 1188);
        }
        VolcanoWatch deep = basin(99, 12).make();
        Check.due("up to 999 and 1 higher", deep.lava(0, 10, 0, 0), 990);
        // 1089 is 90 higher than 999
        Check.due("over the wall", deep.lava(0, 11, 1, 0), 45);
        Check.due("what is kept", deep.lava(0, 11, 0, 0), 1044);
    }

    /** REACHED: the first STEP (1 .. 12) behind which a CELL has, or ever had, LAVA; 13: none. */
    private static void reachedFirstAndNever() {
        // stairs down along the first row, 8 long, and down the last column
        Scene stairs = Scene.of("land 8 8");
        for (int x = 0; x < 8; x++) {
            for (int y = 0; y < 8; y++) {
                int height = y == 0 ? 900 - 50 * x : x == 7 ? 550 - 50 * y : 999;
                stairs = stairs.and("ground " + (8 * y + x) + " " + height + " 0");
            }
        }
        VolcanoWatch way = stairs.and("world 5 0 9 1 1").make();
        for (int x = 0; x < 8; x++) {
            Check.due("reached of " + x, way.reached(0, x), Math.max(1, x));
        }
        for (int y = 1; y < 8; y++) {
            int steps = 7 + y;
            Check.due("reached of " + (8 * y + 7), way.reached(0, 8 * y + 7), steps <= 12 ? steps : 13);
            Check.due("lava there behind 12", way.lava(0, 12, 8 * y + 7, 0), steps == 12 ? 9 : 0);
        }
        Check.due("beside the way", way.reached(0, 8), 13);
        for (int cell = 0; cell < 5; cell++) {
            Check.due("had, and gave away: " + cell, way.lava(0, 12, cell, 0), 0);
        }
        Check.due("the vent, though it cools to rock", basin(1, 1).make().reached(0, 0), 1);
        Check.due("cells without", basin(1, 1).make().reached(0, 3), 13);
        Check.due("cells that a wall keeps", basin(1, 1).make().reached(0, 1), 13);
        // in 12 steps a fill of 2 each comes 2 above 22, and not 2 above 23
        for (int[] due : new int[][] {{20, 11}, {21, 12}, {22, 12}, {23, 13}, {24, 13}}) {
            VolcanoWatch x = Scene.of("land 2 2", "ground 1 " + due[0] + " 0", "ground 2 999 0", "world 0 0 2 12 1").make();
            Check.due("reached behind a wall of " + due[0], x.reached(0, 1), due[1]);
        }
    }

    /** WINDS: of an HOUR 0 .. 123 a DIRECTION 0 .. 7 and a SPEED 0 .. 7 (0, 0 at first). */
    private static void windsOfHours() {
        Scene some = Scene.of("world 0 5 64 1 1", "wind 0 2 1");
        for (int hour : new int[] {0, 1, 98, 99, 100, 110, 111, 122, 123}) {
            some.answers("wind " + hour + " 7 7", 1);
            some.answers("wind " + hour + " 0 0", 1);
        }
        int[] wrong = {Integer.MIN_VALUE, -1, 124, 1000, Integer.MAX_VALUE};
        for (int number : wrong) {
            some.refuses("wind " + number + " 0 0", 0);
            some.refuses("wind 0 " + number + " 0", 0);
            some.refuses("wind 0 0 " + number, 0);
        }
        some.refuses("wind 0 8 0", 0);
        some.refuses("wind 0 0 8", 0);
        some.refuses("wind 0 0 -1", 0);
        some.answers("ash 0 9", 32);
        some.and("wind 0 2 0").answers("ash 0 9", 0);
        some.and("wind 0 2 8").answers("ash 0 9", 32);
        some.and("wind 124 2 0").answers("ash 0 9", 32);
        Scene fresh = Scene.of("world 0 5 64 1 1");
        fresh.answers("ash 0 5", 64);
        fresh.answers("ash 0 6", 0);
        fresh.and("wind 0 0 1").answers("ash 0 6", 32);
        fresh.and("wind 1 0 1").answers("ash 0 6", 0);
    }

    /** In each of the HOURS START .. START and LASTING less 1. */
    private static void hoursOfAsh() {
        for (int start : new int[] {0, 1, 50, 98, 99}) {
            for (int lasting : new int[] {1, 2, 11, 12}) {
                Scene world = Scene.of("world " + start + " 5 64 " + lasting + " 1");
                world.answers("ash 0 5", 64 * lasting);
                if (start > 0) {
                    world.and("wind " + (start - 1) + " 0 7 = 1").answers("ash 0 6", 0);
                }
                world.and("wind " + start + " 0 7 = 1").answers("ash 0 6", 32);
                world.and("wind " + (start + lasting - 1) + " 0 7 = 1").answers("ash 0 6", 32);
                world.and("wind " + (start + lasting) + " 0 7 = 1").answers("ash 0 6", 0);
            }
        }
    }

    /** RATE by 2 to the d, downwards, if it is d steps in the DIRECTION from the VENT, d 0 .. SPEED. */
    private static void stepsOfAsh() {
        int[] vents = {0, 0, 0, 7, 7, 63, 56, 56};
        int[] away = {1, 9, 8, 7, -1, -9, -8, -7};
        int[] of99 = {99, 49, 24, 12, 6, 3, 1, 0};
        for (int direction = 0; direction < 8; direction++) {
            for (int speed = 0; speed <= 7; speed++) {
                VolcanoWatch x = Scene.of("land 8 8", "world 9 " + vents[direction] + " 99 1 1",
                    "wind 9 " + direction + " " + speed).make();
                int sum = 0;
                for (int cell = 0; cell < 64; cell++) {
                    sum += x.ash(0, cell);
                }
                for (int d = 0; d <= 7; d++) {
                    int due = d <= speed ? of99[d] : 0;
                    Check.due("direction " + direction + ", speed " + speed + ", " + d + " steps",
                        x.ash(0, vents[direction] + d * away[direction]), due);
                    sum -= due;
                }
                Check.due("none elsewhere", sum, 0);
            }
        }
        int[][] small = {{1, 1, 0}, {2, 2, 1}, {3, 3, 1}};
        for (int[] due : small) {
            VolcanoWatch x = Scene.of("world 9 5 " + due[0] + " 1 1", "wind 9 0 7").make();
            Check.due("rate " + due[0], x.ash(0, 5), due[1]);
            Check.due("rate " + due[0] + ", 1 step", x.ash(0, 6), due[2]);
        }
    }

    private static void ashStaysOnTheLand() {
        VolcanoWatch x = Scene.of("land 4 4", "world 9 6 64 1 1", "wind 9 0 7").make();
        Check.due("the last of the row", x.ash(0, 7), 32);
        Check.due("not the first of the next", x.ash(0, 8), 0);
        VolcanoWatch y = Scene.of("land 4 4", "world 9 5 64 1 1", "wind 9 4 7").make();
        Check.due("the first of the row", y.ash(0, 4), 32);
        Check.due("not the last of the one ahead", y.ash(0, 3), 0);
        VolcanoWatch z = Scene.of("land 4 4", "world 9 6 64 1 1", "wind 9 1 7").make();
        Check.due("down to the right", z.ash(0, 11), 32);
        Check.due("not round the side", z.ash(0, 12), 0);
        Check.due("not above", z.ash(0, 1), 0);
    }

    /** Promise 29: IndexOutOfBoundsException: no such CELL. NoSuchElementException: no such what. */
    private static void looksAtEdges() {
        Scene some = Scene.of("land 3 2", "ground 0 7 8", "ground 5 9 0", "work 5 0 1", "work 5 1 1");
        some.answers("look 0 0", 7);
        some.answers("look 0 1", 8);
        some.answers("look 0 2", 0);
        some.answers("look 5 0", 9);
        some.answers("look 5 1", 0);
        some.answers("look 5 2", 3);
        for (int cell : new int[] {Integer.MIN_VALUE, -1, 6, 15, 63, Integer.MAX_VALUE}) {
            for (int what : new int[] {Integer.MIN_VALUE, -1, 0, 2, 3, Integer.MAX_VALUE}) {
                some.refuses("look " + cell + " " + what, Scene.NO_CELL);
            }
        }
        for (int what : new int[] {Integer.MIN_VALUE, -1, 3, 4, Integer.MAX_VALUE}) {
            some.refuses("look 0 " + what, Scene.NO_WHAT);
            some.refuses("look 5 " + what, Scene.NO_WHAT);
        }
    }

    /** Promise 30: each count at its most; NONE for another what. */
    private static void countsAtEdges() {
        // eleven times 3 knots, and 31
        Scene full = Scene.of("hours 99", "rules keep 24;" + "level 1 1<2;".repeat(11) + "level 4 1" + "+1".repeat(15)
            + ";").times(8, "post 3").times(3, "world 99 0 1 1 1").times(8, "shelter 1");
        full = full.times(14, "road 0 1 1 1 1 -1").times(20, "read 7 99 1 1");
        for (int cell = 0; cell < 7; cell++) {
            full = full.and("candidate " + cell, "work " + cell + " 1 1");
        }
        int[] counts = {99, 8, 20, 12, 24, 64, 3, 8, 14, 6, 4};
        for (int what = 0; what < counts.length; what++) {
            full.answers("count " + what, counts[what]);
        }
        full.refuses("count -1", -1);
        full.refuses("count 11", -1);
        full.refuses("count -2147483648", -1);
        full.refuses("count 2147483647", -1);
    }
}
