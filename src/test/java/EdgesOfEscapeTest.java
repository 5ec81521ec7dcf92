/** The boundaries of parts 4 and 5 of the document and of promises 18 to 26. */
public final class EdgesOfEscapeTest {
    public static void main(String[] args) {
        eightPlaces();
        fourteenRoads();
        roadsBetweenTwoPlaces();
        thresholdsAndLevels();
        hoursOfWarning();
        lagsOfWarning();
        hoursOfALeading();
        thereTillWarned();
        townsShutInTheLastHour();
        noWarningByTheLastHour();
        lengthsOfRoads();
        cellsOfRoads();
        everyOfRoads();
        capacitiesOfRoads();
        roomOfShelters();
        waitingInAShelter();
        throughATownBeforeItIsShut();
        intoATown();
        theMostPeople();
        theMostWays();
        othersLedOtherwise();
        cutFromWarnedOn();
        cutAtCapacities();
        cutOfThoseNotSaved();
        costsByWeight();
        theGreatestCosts();
        sixCandidates();
        atMostSoManyWorks();
        bestWithWorksBuilt();
        bestOfTheLastNumber();
        bestOfLikeOnes();
        bestWhereHousesAre();
        bestOfEverythingAtItsMost();
        askedAnew();
        Check.end("EdgesOfEscapeTest");
    }

    /** In a world that starts so: cell 0 is shut 1 hour later, cell 1 is 12 hours later, 2 and 3 are not. */
    private static Scene land(int start) {
        return Scene.of("land 2 2", "ground 1 22 0", "ground 2 999 0", "world " + start + " 0 2 12 3");
    }

    /** As land, with a level of 2 from an hour on. */
    private static Scene warned(int start, int hour) {
        return land(start).and("post 0", "hours " + hour, "read 0 " + hour + " 1 0", "rules level 2 count(tremor,48);");
    }

    /** As warned, in a world that starts in 20, with a town of 999 at a cell, a shelter, a road. */
    private static Scene town(int hour, int cell, String road) {
        return warned(20, hour).and("town " + cell + " 999 2 0 = 0", "shelter 9999 = 1", road + " = 0");
    }

    /** PLACES, at most 8, numbered from 0 on; promises 18, 19: NONE: there are 8. */
    private static void eightPlaces() {
        Scene seven = warned(20, 10).and("town 0 1 1 0 = 0", "shelter 5 = 1", "town 0 1 1 0 = 2", "shelter 5 = 3",
            "town 1 999 4 5 = 4", "shelter 0 = 5", "shelter 9999 = 6");
        seven.answers("town 3 5 2 0", 7);
        seven.answers("shelter 7", 7);
        seven.refuses("town 4 5 2 0", -1);
        seven.refuses("shelter 10000", -1);
        seven.refuses("warned 7", -1);
        seven.refuses("cut 0 7 20", -1);
        seven.refuses("road 7 0 1 1 1 -1", -1);
        seven.refuses("road 0 7 1 1 1 -1", -1);
        for (String last : new String[] {"town 3 5 2 0 = 7", "shelter 7 = 7"}) {
            Scene eight = seven.and(last);
            eight.answers("count 7", 8);
            eight.refuses("town 3 5 2 0", -1);
            eight.refuses("shelter 7", -1);
            eight.refuses("shelter 0", -1);
            eight.refuses("town -1 5 2 0", -1);
            eight.refuses("shelter -1", -1);
            eight.refuses("warned 8", -1);
            eight.refuses("cut 0 8 20", -1);
            eight.answers("road 7 0 1 1 1 -1", 0);
            eight.answers("road 0 7 1 1 1 -1", 0);
            eight.refuses("road 8 0 1 1 1 -1", -1);
            eight.refuses("road 0 8 1 1 1 -1", -1);
            eight.answers("cut 0 7 20", 0);
        }
    }

    /** ROADS, at most 14. */
    private static void fourteenRoads() {
        Scene none = town(31, 1, "road 0 1 1 1 1 -1");
        Scene some = none.times(12, "road 0 1 1 1 1 -1");
        some.answers("road 0 1 1 1 1 -1", 13);
        some.answers("ledOut 0 0", 13);
        Scene full = some.and("road 0 1 1 1 1 -1 = 13");
        full.answers("count 8", 14);
        full.refuses("road 0 1 1 1 1 -1", -1);
        full.refuses("road 1 0 5 999 6 3", -1);
        full.refuses("road 0 0 1 1 1 -1", -1);
        full.answers("ledOut 0 0", 14);
        full.and("land 2 2", "shelter 1", "shelter 1").answers("road 0 1 1 1 1 -1", 0);
    }

    /** From a PLACE to another one. */
    private static void roadsBetweenTwoPlaces() {
        Scene two = land(20).and("shelter 1");
        two.refuses("road 0 0 1 1 1 -1", -1);
        two.refuses("road 0 1 1 1 1 -1", -1);
        two.refuses("road 1 0 1 1 1 -1", -1);
        two.refuses("road -1 0 1 1 1 -1", -1);
        Scene three = two.and("shelter 2", "town 0 1 1 0");
        for (int from = 0; from <= 2; from++) {
            for (int to = 0; to <= 2; to++) {
                if (from == to) {
                    three.refuses("road " + from + " " + to + " 1 1 1 -1", -1);
                } else {
                    three.answers("road " + from + " " + to + " 1 1 1 -1", 0);
                    three.and("road " + from + " " + to + " 1 1 1 -1").answers("road " + from + " " + to + " 1 1 1 -1", 1);
                }
            }
        }
        for (int cell : new int[] {-1, 0, 3}) {
            three.answers("road 0 1 1 1 1 " + cell, 0);
        }
        for (int cell : new int[] {Integer.MIN_VALUE, -2, 4, 63, Integer.MAX_VALUE}) {
            three.refuses("road 0 1 1 1 1 " + cell, -1);
        }
    }

    /** WARNED: the first HOUR whose LEVEL is its THRESHOLD at least. */
    private static void thresholdsAndLevels() {
        for (int threshold = 1; threshold <= 4; threshold++) {
            Scene town = land(20).and("town 1 5 " + threshold + " 0 = 0");
            town.answers("warned 0", -1);
            for (int level = 1; level <= 4; level++) {
                town.and("rules level " + level + " 1;").answers("warned 0", level >= threshold ? 0 : -1);
            }
        }
    }

    /** The first HOUR (up to 99); none. */
    private static void hoursOfWarning() {
        for (int hour : new int[] {0, 1, 50, 98, 99}) {
            Scene town = warned(20, hour).and("town 1 5 2 0 = 0", "town 1 5 3 0 = 1", "shelter 1 = 2");
            town.answers("warned 0", hour);
            town.refuses("warned 1", -1);
            town.refuses("warned 2", -1);
            town.refuses("warned 3", -1);
            town.and("read 0 " + hour + " 1 1").answers("warned 0", -1);
        }
        Scene late = warned(20, 40).and("town 1 5 2 0", "rules keep 24; level 2 last(tremor,1) = 1; level 3 1 = 0;");
        late.answers("warned 0", 40);
        // told in 40 for 3: not known in 3
        Scene ahead = land(20).and("town 1 5 2 0", "post 0", "hours 40", "read 0 3 1 0",
            "rules level 2 last(tremor,1) = 1;");
        ahead.answers("warned 0", -1);
        ahead.and("rules level 2 last(tremor,38) = 1;").answers("warned 0", 40);
        ahead.and("rules level 2 last(tremor,37) = 1;").answers("warned 0", -1);
    }

    private static void lagsOfWarning() {
        for (int hour : new int[] {0, 7, 99}) {
            for (int lag = 0; lag <= 5; lag++) {
                warned(20, hour).and("town 1 5 2 " + lag).answers("warned 0", hour + lag);
            }
        }
        warned(20, 0).and("town 1 5 3 5").answers("warned 0", -1);
    }

    /** From the HOUR B = START less 12 (0 at least) up to the HOUR Z = START and 12. */
    private static void hoursOfALeading() {
        int[][] dues = {{0, 0, 120}, {1, 0, 130}, {11, 0, 230}, {12, 0, 240}, {13, 1, 240}, {50, 38, 240}, {99, 87, 240}};
        for (int[] due : dues) {
            int start = due[0];
            Scene world = land(start).and("rules level 2 1;", "town 1 999 2 0 = 0", "shelter 9999 = 1",
                "road 0 1 1 10 1 -1 = 0");
            world.answers("ledOut 0 0", due[2]);
            world.answers("ledOut 0 1", 999 - due[2]);
            world.refuses("cut 0 0 " + (due[1] - 1), -1);
            world.answers("cut 0 0 " + due[1], 1);
            world.answers("cut 0 0 " + (start + 11), 1);
            world.answers("cut 0 0 " + (start + 12), 0);
            world.refuses("cut 0 0 " + (start + 13), -1);
            world.refuses("cut 0 1 " + (due[1] - 1), -1);
            world.answers("cut 0 1 " + due[1], 0);
            world.answers("cut 0 1 " + (start + 12), 0);
            world.refuses("cut 0 1 " + (start + 13), -1);
            world.refuses("cut 0 0 -2147483648", -1);
            world.refuses("cut 0 0 2147483647", -1);
        }
    }

    /** PEOPLE of a TOWN are there till WARNED (B, if that is earlier). */
    private static void thereTillWarned() {
        int[][] dues = {{0, 240}, {7, 240}, {8, 240}, {9, 230}, {20, 120}, {30, 20}, {31, 10}, {32, 0}, {33, 0}, {99, 0}};
        for (int[] due : dues) {
            Scene town = town(due[0], 1, "road 0 1 1 10 1 -1");
            town.answers("ledOut 0 0", due[1]);
            town.answers("ledOut 0 1", 999 - due[1]);
            town.answers("cut 0 0 8", due[0] <= 8 ? 1 : 0);
            town.answers("cut 0 0 9", due[0] <= 9 ? 1 : 0);
            town.answers("cut 0 0 31", due[0] <= 31 ? 1 : 0);
            town.answers("cut 0 0 32", 0);
        }
    }

    /** Nobody is in a TOWN in an HOUR in which its CELL is SHUT; SAVED: who is in a TOWN that isn't SHUT, in Z. */
    private static void townsShutInTheLastHour() {
        for (String rules : new String[] {"rules keep 1;", "rules level 4 1;"}) {
            Scene reachedIn12 = land(20).and(rules, "town 1 70 2 0");
            reachedIn12.answers("reached 0 1", 12);
            reachedIn12.answers("ledOut 0 0", 0);
            reachedIn12.answers("ledOut 0 1", 70);
            Scene never = reachedIn12.and("ground 1 23 0");
            never.answers("reached 0 1", 13);
            never.answers("ledOut 0 0", 70);
            never.answers("ledOut 0 1", 0);
        }
    }

    /** .. for ever, without, or if it is behind Z. */
    private static void noWarningByTheLastHour() {
        for (int warning : new int[] {31, 32, 33}) {
            for (int lag : new int[] {0, 5}) {
                Scene shut = warned(20, warning - lag).and("town 1 70 2 " + lag, "shelter 99", "road 0 1 1 50 1 -1");
                shut.answers("warned 0", warning);
                shut.answers("ledOut 0 0", warning == 31 ? 50 : 0);
                Scene open = warned(20, warning - lag).and("town 3 70 2 " + lag, "shelter 99", "road 0 1 1 50 1 -1");
                open.answers("ledOut 0 0", 70);
                open.answers("cut 0 0 32", 0);
            }
        }
    }

    /** 1 .. 5 HOURS long; who leaves in h is at its end in h and its length, Z at most. */
    private static void lengthsOfRoads() {
        for (int length = 1; length <= 5; length++) {
            town(20, 1, "road 0 1 " + length + " 10 1 -1").answers("ledOut 0 0", 10 * (13 - length));
            town(32 - length, 1, "road 0 1 " + length + " 10 1 -1").answers("ledOut 0 0", 10);
            town(33 - length, 1, "road 0 1 " + length + " 10 1 -1").answers("ledOut 0 0", 0);
            town(20, 0, "road 0 1 " + length + " 10 1 -1").answers("ledOut 0 0", 10);
            town(21, 0, "road 0 1 " + length + " 10 1 -1").answers("ledOut 0 0", 0);
        }
    }

    /** Its CELL must not be SHUT up to then. */
    private static void cellsOfRoads() {
        for (int length = 1; length <= 5; length++) {
            // over cell 0, shut from 21 on; over cell 1, shut from 32 on
            town(15, 1, "road 0 1 " + length + " 10 1 0").answers("ledOut 0 0", 10 * (6 - length));
            town(20 - length, 1, "road 0 1 " + length + " 10 1 0").answers("ledOut 0 0", 10);
            town(21 - length, 1, "road 0 1 " + length + " 10 1 0").answers("ledOut 0 0", 0);
            town(31 - length, 1, "road 0 1 " + length + " 10 1 1").answers("ledOut 0 0", 10);
            town(32 - length, 1, "road 0 1 " + length + " 10 1 1").answers("ledOut 0 0", 0);
            town(32 - length, 1, "road 0 1 " + length + " 10 1 3").answers("ledOut 0 0", 10);
            town(32 - length, 1, "road 0 1 " + length + " 10 1 -1").answers("ledOut 0 0", 10);
        }
    }

    /** EVERY 1 .. 6: they leave in HOURS that it divides. */
    private static void everyOfRoads() {
        int[] of15to31 = {17, 8, 6, 4, 4, 3};
        int[] of0to16 = {17, 9, 6, 5, 4, 3};
        for (int every = 1; every <= 6; every++) {
            String road = "road 0 1 1 10 " + every + " -1";
            town(15, 1, road).answers("ledOut 0 0", 10 * of15to31[every - 1]);
            Scene early = land(5).and("rules level 2 1;", "town 1 999 2 0", "shelter 9999", road);
            early.answers("ledOut 0 0", 10 * of0to16[every - 1]);
        }
        // 30 alone of 30 .. 31, and none of 31
        town(30, 1, "road 0 1 1 10 6 -1").answers("ledOut 0 0", 10);
        town(31, 1, "road 0 1 1 10 6 -1").answers("ledOut 0 0", 0);
        town(31, 1, "road 0 1 1 10 2 -1").answers("ledOut 0 0", 0);
    }

    /** CAPACITY 1 .. 999 that leave in one HOUR. */
    private static void capacitiesOfRoads() {
        for (int capacity : new int[] {1, 2, 998, 999}) {
            town(31, 1, "road 0 1 1 " + capacity + " 1 -1").answers("ledOut 0 0", capacity);
            town(30, 1, "road 0 1 1 " + capacity + " 1 -1").answers("ledOut 0 0", Math.min(999, 2 * capacity));
        }
        town(31, 1, "road 0 1 1 500 1 -1").and("road 0 1 1 498 1 -1").answers("ledOut 0 0", 998);
        town(31, 1, "road 0 1 1 500 1 -1").and("road 0 1 1 499 1 -1").answers("ledOut 0 0", 999);
        town(31, 1, "road 0 1 1 999 1 -1").and("road 0 1 1 999 1 -1").answers("ledOut 0 0", 999);
        warned(20, 31).and("town 1 1 2 0", "shelter 1", "road 0 1 1 1 1 -1").answers("ledOut 0 0", 1);
    }

    /** A SHELTER (ROOM 0 .. 9999): at most ROOM are there in Z. */
    private static void roomOfShelters() {
        for (int room : new int[] {0, 1, 998, 999, 1000, 9999}) {
            Scene town = warned(20, 20).and("town 1 999 2 0", "shelter " + room, "road 0 1 1 999 1 -1");
            town.answers("ledOut 0 0", Math.min(room, 999));
            town.answers("ledOut 0 1", 999 - Math.min(room, 999));
            // one more could come to the shelter while some are lost
            town.answers("cut 0 1 20", 0);
            town.answers("cut 0 1 21", room < 999 ? 1 : 0);
            town.answers("cut 0 1 32", room < 999 ? 1 : 0);
        }
        Scene two = warned(20, 31).and("town 1 999 2 0", "shelter 400", "shelter 598", "road 0 1 1 999 1 -1",
            "road 0 2 1 999 1 -1");
        two.answers("ledOut 0 0", 998);
        two.and("shelter 1", "road 0 3 1 1 1 -1").answers("ledOut 0 0", 999);
    }

    /** In a SHELTER one may wait and go on later. */
    private static void waitingInAShelter() {
        Scene boats = warned(20, 20).and("town 1 999 2 0", "shelter 0", "shelter 9999", "road 0 1 1 999 1 -1",
            "road 1 2 1 600 6 -1");
        // boats in 24 and 30
        boats.answers("ledOut 0 0", 999);
        Scene late = warned(20, 29).and("town 1 999 2 0", "shelter 0", "shelter 9999", "road 0 1 1 999 1 -1",
            "road 1 2 2 600 6 -1");
        late.answers("ledOut 0 0", 600);
        Scene tooLate = warned(20, 30).and("town 1 999 2 0", "shelter 0", "shelter 9999", "road 0 1 1 999 1 -1",
            "road 1 2 2 600 6 -1");
        tooLate.answers("ledOut 0 0", 0);
        Scene tooLong = warned(20, 29).and("town 1 999 2 0", "shelter 0", "shelter 9999", "road 0 1 1 999 1 -1",
            "road 1 2 3 600 6 -1");
        tooLong.answers("ledOut 0 0", 0);
        tooLong.answers("cut 0 1 29", 0);
        tooLong.answers("cut 0 1 30", 1);
        tooLong.answers("cut 0 1 32", 1);
        tooLong.answers("cut 0 2 32", 0);
    }

    /** Nobody is in a TOWN in an HOUR in which its CELL is SHUT: the hour ahead one may come, and go on at once. */
    private static void throughATownBeforeItIsShut() {
        for (int hour : new int[] {19, 20}) {
            Scene through = warned(20, hour).and("town 1 100 2 0 = 0", "town 0 1 4 0 = 1", "shelter 9999 = 2",
                "road 0 1 1 10 1 -1 = 0", "road 1 2 1 999 5 -1 = 1");
            through.answers("ledOut 0 0", hour == 19 ? 10 : 0);
            through.answers("cut 0 1 20", 0);
            through.answers("cut 0 1 21", 0);
            through.answers("cut 0 0 31", 1);
        }
        Scene early = warned(20, 18).and("town 1 100 2 0 = 0", "town 0 1 4 0 = 1", "shelter 9999 = 2",
            "road 0 1 1 10 1 -1 = 0", "road 1 2 1 999 5 -1 = 1");
        early.answers("ledOut 0 0", 20);
        early.answers("ledOut 0 1", 81);
    }

    private static void intoATown() {
        for (int cell : new int[] {1, 2, 3}) {
            Scene into = warned(20, 15).and("town 0 999 2 0", "town " + cell + " 1 4 0", "road 0 1 1 10 1 -1");
            into.answers("ledOut 0 0", cell == 1 ? 0 : 61);
            into.answers("ledOut 0 1", cell == 1 ? 1000 : 939);
            into.answers("cut 0 1 16", cell == 1 ? 1 : 0);
            into.answers("cut 0 1 32", 0);
        }
    }

    private static void theMostPeople() {
        for (int room : new int[] {6992, 6993, 9999}) {
            Scene all = warned(20, 31);
            for (int i = 0; i < 7; i++) {
                all = all.and("town 1 999 2 0 = " + i);
            }
            all = all.and("shelter " + room + " = 7");
            for (int i = 0; i < 7; i++) {
                all = all.and("road " + i + " 7 1 999 1 -1 = " + i);
            }
            all.answers("ledOut 0 0", Math.min(room, 6993));
            all.answers("ledOut 0 1", 6993 - Math.min(room, 6993));
            all.answers("cut 0 7 32", room == 6992 ? 1 : 0);
        }
        land(20).times(8, "town 3 999 4 0").answers("ledOut 0 0", 7992);
        land(20).times(8, "town 0 999 4 0").answers("ledOut 0 1", 7992);
        land(20).answers("ledOut 0 0", 0);
        land(20).answers("ledOut 0 1", 0);
        land(20).and("shelter 9999").answers("ledOut 0 0", 0);
    }

    /** Of every kind as many ways from hour to hour as there may be, on one object for many sets of WORKS. */
    private static void theMostWays() {
        Scene shelters = land(20).and("rules level 2 1;", "town 1 999 2 0 = 0").times(7, "shelter 99");
        Scene towns = land(20).and("rules level 2 1;", "town 1 999 2 0 = 0").times(7, "town 3 7 2 0");
        for (int i = 0; i < 14; i++) {
            String road = "road 0 " + (1 + i % 7) + " 1 1 1 -1 = " + i;
            shelters = shelters.and(road);
            towns = towns.and(road);
        }
        // each of 14 roads in each of 8 .. 31
        shelters.answers("ledOut 0 0", 336);
        towns.answers("ledOut 0 0", 336 + 49);
        VolcanoWatch x = towns.and("world 20 0 2 12 1", "world 20 0 2 12 1", "candidate 2", "candidate 3", "candidate 1",
            "candidate 0").make();
        Check.due("the least cost", x.best(2, 3), 0);
        Check.due("a wall at the town", x.best(2, 1), 4);
        for (int i = 0; i < 9; i++) {
            Check.due("as before", x.ledOut(i % 3, 0), 336 + 49);
            Check.due("a wall", x.work(2, false, i % 2 == 0), true);
        }
        Check.due("cost", x.cost(0), (999 - 336) * 5);
    }

    /** The most that can be: in whatever order roads are told, one gives way to another. */
    private static void othersLedOtherwise() {
        String[][] orders = {{"road 0 2 1 10 1 -1", "road 0 3 1 10 1 -1", "road 1 2 1 10 1 -1"},
            {"road 0 3 1 10 1 -1", "road 0 2 1 10 1 -1", "road 1 2 1 10 1 -1"},
            {"road 1 2 1 10 1 -1", "road 0 2 1 10 1 -1", "road 0 3 1 10 1 -1"},
            {"road 1 2 1 10 1 -1", "road 0 3 1 10 1 -1", "road 0 2 1 10 1 -1"}};
        for (String[] roads : orders) {
            for (int turn = 0; turn < 2; turn++) {
                // turn 1 tells town 1 ahead of town 0, and shelter 3 ahead of 2
                Scene x = warned(20, 20).and("town 0 10 2 0", "town 0 10 2 0", "shelter 10", "shelter 10");
                for (String road : roads) {
                    String[] of = road.split(" ");
                    int from = Integer.parseInt(of[1]);
                    int to = Integer.parseInt(of[2]);
                    x = x.and("road " + (turn == 0 ? from : 1 - from) + " " + (turn == 0 ? to : 5 - to) + " 1 10 1 -1");
                }
                x.answers("ledOut 0 0", 20);
                x.answers("ledOut 0 1", 0);
                for (int place = 0; place < 4; place++) {
                    x.answers("cut 0 " + place + " 20", 0);
                    x.answers("cut 0 " + place + " 32", 0);
                }
            }
        }
        // a chain of five, each of which gives way to the next
        Scene chain = warned(20, 20).and("town 0 10 2 0", "town 0 10 2 0", "town 0 10 2 0", "town 0 10 2 0",
            "shelter 10", "shelter 10", "shelter 10", "shelter 10");
        Scene ahead = chain;
        for (int i = 0; i < 4; i++) {
            ahead = ahead.and("road " + i + " " + (4 + i) + " 1 10 1 -1");
            ahead = i < 3 ? ahead.and("road " + i + " " + (5 + i) + " 1 10 1 -1") : ahead;
        }
        Scene back = chain;
        for (int i = 3; i >= 0; i--) {
            back = i < 3 ? back.and("road " + i + " " + (5 + i) + " 1 10 1 -1") : back;
            back = back.and("road " + i + " " + (4 + i) + " 1 10 1 -1");
        }
        ahead.answers("ledOut 0 0", 40);
        back.answers("ledOut 0 0", 40);
    }

    /** CUT: from its WARNED HOUR (or B) on, of a TOWN that is WARNED and not all of whose PEOPLE are SAVED. */
    private static void cutFromWarnedOn() {
        Scene town = town(12, 0, "road 0 1 1 10 1 -1");
        for (int hour = 8; hour <= 32; hour++) {
            town.answers("cut 0 0 " + hour, hour >= 12 && hour <= 20 ? 1 : 0);
            town.answers("cut 0 1 " + hour, 0);
        }
        town.refuses("cut 0 0 7", -1);
        town.refuses("cut 0 0 33", -1);
        town.refuses("cut 0 2 12", -1);
        town.refuses("cut 1 0 12", -1);
        // nobody is warned: none can be led anywhere
        Scene unwarned = land(20).and("town 0 999 2 0", "shelter 9999", "road 0 1 1 10 1 -1");
        for (int hour = 8; hour <= 32; hour++) {
            unwarned.answers("cut 0 0 " + hour, 0);
        }
    }

    /** One person more or fewer than can be led. */
    private static void cutAtCapacities() {
        for (int people : new int[] {89, 90, 91}) {
            // 10 each in 12 .. 20
            Scene town = warned(20, 12).and("town 0 " + people + " 2 0", "shelter 9999", "road 0 1 1 10 1 -1");
            town.answers("ledOut 0 0", Math.min(people, 90));
            town.answers("ledOut 0 1", people - Math.min(people, 90));
            for (int hour = 12; hour <= 20; hour++) {
                town.answers("cut 0 0 " + hour, people > 90 ? 1 : 0);
            }
        }
    }

    private static void cutOfThoseNotSaved() {
        // town 0 has a way of its own; town 1 shares its road to place 2 with it
        Scene two = warned(20, 20).and("town 0 10 2 0 = 0", "town 0 30 2 0 = 1", "shelter 20 = 2", "shelter 10 = 3",
            "road 0 2 1 10 1 -1 = 0", "road 0 3 1 10 1 -1 = 1", "road 1 2 1 30 1 -1 = 2");
        two.answers("ledOut 0 0", 30);
        two.answers("cut 0 1 20", 1);
        two.answers("cut 0 2 21", 1);
        two.answers("cut 0 3 21", 0);
        // town 0 is saved wholly without place 2, so that none of it could be led otherwise
        two.answers("cut 0 0 20", 0);
        Scene less = two.and("shelter 99 = 4", "road 1 4 1 10 1 -1 = 3");
        less.answers("ledOut 0 0", 40);
        less.answers("ledOut 0 1", 0);
        for (int place = 0; place <= 4; place++) {
            for (int hour : new int[] {8, 20, 21, 32}) {
                less.answers("cut 0 " + place + " " + hour, 0);
            }
        }
    }

    /** COST: the sum over WORLDS of WEIGHT times LOST, then that of WEIGHT times BURIED. */
    private static void costsByWeight() {
        Scene none = Scene.of("land 2 2", "ground 0 0 7", "town 0 50 1 0");
        none.answers("cost 0", 0);
        none.answers("cost 1", 0);
        for (int weight : new int[] {1, 2, 99}) {
            Scene one = none.and("world 5 0 1 1 " + weight);
            one.answers("cost 0", 50 * weight);
            one.answers("cost 1", 7 * weight);
            one.refuses("cost -1", -1);
            one.refuses("cost 2", -1);
            one.and("world 5 0 1 1 99", "world 5 3 1 1 99").answers("cost 0", 50 * (weight + 99));
            one.and("world 5 0 1 1 99", "world 5 3 1 1 99").answers("cost 1", 7 * (weight + 99));
        }
        // houses of a cell that is reached in step 12, and of one that is not
        land(20).and("ground 1 22 9").answers("cost 1", 27);
        land(20).and("ground 1 23 9").answers("cost 1", 0);
        land(20).and("ground 1 22 9").answers("ledOut 0 2", 9);
        land(20).and("ground 1 23 9").answers("ledOut 0 2", 0);
    }

    private static void theGreatestCosts() {
        Scene all = Scene.of("land 2 2", "ground 0 0 99", "ground 1 0 99", "ground 2 0 99", "ground 3 0 99");
        all = all.times(3, "world 99 0 99 12 99").times(8, "town 0 999 4 5");
        all.answers("cost 0", 3 * 99 * 8 * 999);
        all.answers("cost 1", 3 * 99 * 4 * 99);
        all.answers("best 2 3", 3 * 99 * 8 * 999);
        all.answers("best 2 4", 3 * 99 * 4 * 99);
    }

    /** CANDIDATES, at most 6 CELLS, no two alike. */
    private static void sixCandidates() {
        Scene five = Scene.of("land 3 3", "world 5 4 9 2 1", "candidate 8 = 0", "candidate 0 = 1", "candidate 7 = 2",
            "candidate 1 = 3", "candidate 6 = 4");
        for (int cell : new int[] {8, 0, 7, 1, 6}) {
            five.refuses("candidate " + cell, -1);
        }
        five.answers("candidate 4", 5);
        five.answers("candidate 2", 5);
        five.refuses("candidate 9", -1);
        five.refuses("candidate -1", -1);
        Scene six = five.and("candidate 2 = 5");
        for (int cell = -1; cell <= 9; cell++) {
            six.refuses("candidate " + cell, -1);
        }
        six.refuses("candidate -2147483648", -1);
        six.refuses("candidate 2147483647", -1);
        six.answers("count 9", 6);
        six.and("land 3 3").answers("candidate 8", 0);
        Scene.of("ground 3 0 9").answers("candidate 3", 0);
        Scene.of("work 3 0 1").answers("candidate 3", 0);
    }

    /** Lava from either side, down to 7 houses in cell 3 and 9 in cell 4; a wall at 6 or 1 stops one of them. */
    private static Scene twoStreams() {
        Scene x = Scene.of("land 8 2");
        int[] heights = {3, 2, 1, 0, 0, 1, 2, 3};
        for (int cell = 0; cell < 16; cell++) {
            int houses = cell == 3 ? 7 : cell == 4 ? 9 : 0;
            x = x.and("ground " + cell + " " + (cell < 8 ? heights[cell] : 999) + " " + houses);
        }
        return x.and("world 0 0 4 1 1", "world 0 7 4 1 1");
    }

    private static void best(Scene x, int m, int... due) {
        for (int what = 0; what < 5; what++) {
            x.answers("best " + m + " " + what, due[what]);
        }
        x.refuses("best " + m + " -1", -1);
        x.refuses("best " + m + " 5", -1);
    }

    /** BEST for m (0 .. 2): of all sets of at most m more WORKS. */
    private static void atMostSoManyWorks() {
        Scene x = twoStreams();
        x.answers("cost 1", 16);
        best(x, 2, 0, -1, -1, 0, 16);
        Scene two = x.and("candidate 6 = 0", "candidate 1 = 1");
        best(two, 0, 0, -1, -1, 0, 16);
        best(two, 1, 1, 0, -1, 0, 7);
        best(two, 2, 2, 0, 2, 0, 0);
        for (int m : new int[] {Integer.MIN_VALUE, -1, 3, 4, Integer.MAX_VALUE}) {
            for (int what = 0; what <= 4; what++) {
                two.refuses("best " + m + " " + what, -1);
            }
        }
        // nothing is built
        two.refuses("best 0 0", 0);
        two.refuses("best 1 1", 0);
        two.refuses("best 2 2", 2);
        best(x.and("candidate 6 = 0"), 2, 1, 0, -1, 0, 7);
        best(x.and("candidate 15 = 0"), 2, 0, -1, -1, 0, 16);
    }

    /** .. such that the rules for WORKS hold: at most 4 in all, each once at most. */
    private static void bestWithWorksBuilt() {
        Scene x = twoStreams().and("candidate 6 = 0", "candidate 1 = 1", "work 8 0 1 = 1", "work 9 0 1 = 1");
        best(x, 2, 2, 0, 2, 0, 0);
        Scene three = x.and("work 10 0 1 = 1");
        best(three, 2, 1, 0, -1, 0, 7);
        best(three, 1, 1, 0, -1, 0, 7);
        Scene four = three.and("work 10 1 1 = 1");
        best(four, 2, 0, -1, -1, 0, 16);
        best(four, 1, 0, -1, -1, 0, 16);
        best(four, 0, 0, -1, -1, 0, 16);
        best(four.and("work 8 0 0 = 1"), 2, 1, 0, -1, 0, 7);
        Scene built = twoStreams().and("candidate 6 = 0", "candidate 1 = 1", "work 6 0 1 = 1");
        best(built, 0, 0, -1, -1, 0, 7);
        best(built, 1, 1, 2, -1, 0, 0);
        best(built, 2, 1, 2, -1, 0, 0);
        best(built.and("work 1 0 1 = 1"), 2, 0, -1, -1, 0, 0);
    }

    /** Twice the CANDIDATE's number, 1 more for a TRENCH: up to 11. */
    private static void bestOfTheLastNumber() {
        Scene x = Scene.of("land 8 2");
        int[] heights = {20, 0, 5, 0, 0, 1, 2, 3};
        for (int cell = 0; cell < 16; cell++) {
            int houses = cell == 3 ? 7 : cell == 4 ? 9 : 0;
            x = x.and("ground " + cell + " " + (cell < 8 ? heights[cell] : 999) + " " + houses);
        }
        x = x.and("work 1 0 1", "world 0 0 4 1 1");
        x.answers("cost 1", 16);
        Scene last = x.and("candidate 11", "candidate 12", "candidate 13", "candidate 14", "candidate 15", "candidate 1 = 5");
        best(last, 1, 1, 11, -1, 0, 0);
        best(last, 2, 1, 11, -1, 0, 0);
        Scene first = x.and("candidate 1 = 0", "candidate 12");
        best(first, 1, 1, 1, -1, 0, 0);
    }

    /** Of several the fewest, then the first by numbers. */
    private static void bestOfLikeOnes() {
        Scene x = twoStreams();
        // 5 and 6 stop the one stream, 1 and 2 the other, in whatever order they are told
        best(x.and("candidate 5", "candidate 6", "candidate 1", "candidate 2"), 2, 2, 0, 4, 0, 0);
        best(x.and("candidate 2", "candidate 1", "candidate 5", "candidate 6"), 2, 2, 0, 4, 0, 0);
        best(x.and("candidate 15", "candidate 6", "candidate 14", "candidate 1"), 2, 2, 2, 6, 0, 0);
        best(x.and("candidate 6", "candidate 5"), 2, 1, 0, -1, 0, 7);
        best(x.and("candidate 6", "candidate 5"), 1, 1, 0, -1, 0, 7);
        // without houses all sets are alike
        Scene none = x.and("ground 3 0 0", "ground 4 0 0", "candidate 1", "candidate 6");
        best(none, 0, 0, -1, -1, 0, 0);
        best(none, 1, 0, -1, -1, 0, 0);
        best(none, 2, 0, -1, -1, 0, 0);
        // a person counts ahead of any houses
        Scene person = x.and("town 3 1 4 0", "ground 4 0 99", "candidate 6", "candidate 1");
        best(person, 1, 1, 2, -1, 0, 99);
    }

    /** No WORKS where HOUSES are. */
    private static void bestWhereHousesAre() {
        Scene x = twoStreams().and("candidate 6", "candidate 1", "candidate 5");
        best(x.and("ground 6 2 1"), 1, 1, 4, -1, 0, 8);
        best(x.and("ground 6 2 1", "ground 6 2 0"), 1, 1, 0, -1, 0, 7);
        best(x.and("ground 6 2 1", "ground 5 1 1"), 1, 1, 2, -1, 0, 11);
        best(x.and("ground 6 2 1", "ground 5 1 1", "ground 1 2 1"), 2, 0, -1, -1, 0, 19);
    }

    private static void bestOfEverythingAtItsMost() {
        Scene x = twoStreams().and("world 0 15 1 1 9", "rules level 2 1;");
        for (int i = 0; i < 7; i++) {
            x = x.and("town " + (8 + i) + " 5 2 0 = " + i);
        }
        x = x.and("shelter 9999 = 7");
        for (int i = 0; i < 14; i++) {
            x = x.and("road " + i % 7 + " 7 1 1 1 " + (i < 7 ? -1 : 8 + i % 7) + " = " + i);
        }
        x = x.and("candidate 14", "candidate 13", "candidate 12", "candidate 11", "candidate 6", "candidate 1");
        // the third world's lava comes down to 7, 6, 5 and 4
        x.answers("cost 0", 0);
        x.answers("cost 1", 16 + 81);
        best(x, 0, 0, -1, -1, 0, 16 + 81);
        best(x, 1, 1, 8, -1, 0, 7);
        best(x, 2, 2, 8, 10, 0, 0);
    }

    /** Each question as the first one behind a change, and again behind the next change. */
    private static void askedAnew() {
        Scene one = town(20, 1, "road 0 1 1 10 1 -1");
        one.answers("cost 0", 3 * 879);
        one.answers("best 0 3", 3 * 879);
        one.answers("best 2 3", 3 * 879);
        one.answers("cut 0 0 20", 1);
        one.answers("ledOut 0 1", 879);
        Scene asked = one.and("best 0 3 = 2637", "best 1 3 = 2637", "best 2 3 = 2637", "cost 0 = 2637", "ledOut 0 0 = 120",
            "cut 0 0 20 = 1", "warned 0 = 20");
        String[] changes = {"road 0 1 1 10 1 -1", "town 0 1 2 0", "read 0 20 1 1", "ground 1 23 0", "work 1 0 1",
            "world 20 0 2 12 1", "post 0", "rules level 1 1;", "land 2 2"};
        int[][] dues = {{3 * 759, 240, 20}, {3 * 880, 120, 20}, {3 * 999, 0, -1}, {0, 999, 20}, {0, 999, 20},
            {4 * 879, 120, 20}, {3 * 879, 120, 20}, {3 * 999, 0, -1}, {0, -1, -1}};
        for (int i = 0; i < changes.length; i++) {
            Scene then = asked.and(changes[i]);
            for (int m = 0; m <= 2; m++) {
                then.answers("best " + m + " 3", dues[i][0]);
            }
            then.answers("cost 0", dues[i][0]);
            then.answers("ledOut 0 0", dues[i][1]);
            then.answers("warned 0", dues[i][2]);
        }
        Scene choice = twoStreams().and("candidate 6", "best 0 4 = 16", "best 1 4 = 7", "best 2 4 = 7");
        choice.and("candidate 1").answers("best 2 4", 0);
        choice.and("candidate 1").answers("best 1 4", 7);
        choice.and("ground 3 0 6").answers("best 0 4", 15);
        choice.and("ground 3 0 6").answers("best 1 4", 6);
    }
}
