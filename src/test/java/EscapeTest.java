/** Promises 18 to 26: towns, shelters, roads, warnings, who is led out, cuts, costs and the best works. */
public final class EscapeTest {
    public static void main(String[] args) {
        promise18Town();
        promise19Shelter();
        promise20Road();
        promise21Warned();
        promise22LedOut();
        roadsThatClose();
        hoursOfWorlds();
        peopleWhoStay();
        waysOverPlaces();
        promise23Cut();
        cutOfRoom();
        cutWithOthersLedOtherwise();
        promise24Cost();
        promise25Candidate();
        promise26Best();
        bestByTheRulesForWorks();
        bestOfPairs();
        bestOfTrenchAndWall(0);
        bestOfTrenchAndWall(1);
        bestOfTrenchAndWall(4);
        bestForARoad();
        bestAnewWhenSomethingChanged();
        Check.end("EscapeTest");
    }

    /** Cells 0 to 3 fall off from the vent at 0, and are shut from START and 1, 1, 2, 3 on; 4 to 7 stay. */
    private static VolcanoWatch slope() {
        VolcanoWatch x = new VolcanoWatch();
        x.land(4, 2);
        int[] heights = {30, 20, 10, 0, 999, 999, 999, 999};
        for (int cell = 0; cell < 8; cell++) {
            x.ground(cell, heights[cell], 0);
        }
        return x;
    }

    /** As slope, with a level of 2 from an hour on and a world that starts in 20. */
    private static VolcanoWatch slopeWarnedIn(int hour) {
        VolcanoWatch x = slope();
        x.post(0);
        x.hours(hour);
        x.read(0, hour, 1, false);
        Check.rules(x, "level 2 count(tremor,48);");
        x.world(20, 0, 10, 1, 3);
        return x;
    }

    private static void promise18Town() {
        VolcanoWatch x = new VolcanoWatch();
        int[][] wrong = {{-1, 1, 1, 0}, {16, 1, 1, 0}, {0, 0, 1, 0}, {0, 1000, 1, 0}, {0, 1, 0, 0}, {0, 1, 5, 0},
            {0, 1, 1, -1}, {0, 1, 1, 6}};
        for (int[] w : wrong) {
            Check.due("town " + java.util.Arrays.toString(w), x.town(w[0], w[1], w[2], w[3]), -1);
        }
        Check.due("least", x.town(0, 1, 1, 0), 0);
        Check.due("most", x.town(15, 999, 4, 5), 1);
        Check.due("at the same cell", x.town(15, 999, 4, 5), 2);
        for (int i = 3; i < 8; i++) {
            Check.due("town " + i, x.town(i, i, 1, 1), i);
        }
        Check.due("town 8", x.town(0, 1, 1, 0), -1);
        Check.due("count", x.count(7), 8);
    }

    private static void promise19Shelter() {
        VolcanoWatch x = new VolcanoWatch();
        Check.due("room -1", x.shelter(-1), -1);
        Check.due("room 10000", x.shelter(10000), -1);
        Check.due("room 0", x.shelter(0), 0);
        Check.due("room 9999", x.shelter(9999), 1);
        for (int i = 2; i < 8; i++) {
            Check.due("place " + i, i % 2 == 0 ? x.town(0, 1, 1, 0) : x.shelter(5), i);
        }
        Check.due("place 8", x.shelter(5), -1);
    }

    private static void promise20Road() {
        VolcanoWatch x = new VolcanoWatch();
        Check.due("no places", x.road(0, 1, 1, 1, 1, -1), -1);
        x.town(0, 1, 1, 0);
        x.shelter(1);
        int[][] wrong = {{0, 0, 1, 1, 1, -1}, {-1, 1, 1, 1, 1, -1}, {2, 1, 1, 1, 1, -1}, {0, -1, 1, 1, 1, -1},
            {0, 2, 1, 1, 1, -1}, {0, 1, 0, 1, 1, -1}, {0, 1, 6, 1, 1, -1}, {0, 1, 1, 0, 1, -1},
            {0, 1, 1, 1000, 1, -1}, {0, 1, 1, 1, 0, -1}, {0, 1, 1, 1, 7, -1}, {0, 1, 1, 1, 1, -2},
            {0, 1, 1, 1, 1, 16}};
        for (int[] w : wrong) {
            Check.due("road " + java.util.Arrays.toString(w), x.road(w[0], w[1], w[2], w[3], w[4], w[5]), -1);
        }
        Check.due("least", x.road(0, 1, 1, 1, 1, 0), 0);
        Check.due("most", x.road(1, 0, 5, 999, 6, 15), 1);
        for (int i = 2; i < 14; i++) {
            Check.due("road " + i, x.road(i % 2, 1 - i % 2, 1, 1, 1, -1), i);
        }
        Check.due("road 14", x.road(0, 1, 1, 1, 1, -1), -1);
        Check.due("count", x.count(8), 14);
    }

    private static void promise21Warned() {
        VolcanoWatch x = new VolcanoWatch();
        Check.due("no place", x.warned(0), -1);
        x.town(0, 1, 2, 0);
        x.town(0, 1, 3, 5);
        x.shelter(1);
        x.town(0, 1, 4, 0);
        Check.due("without rules", x.warned(0), -1);
        x.post(0);
        x.hours(10);
        x.read(0, 10, 5, false);
        x.hours(2);
        x.read(0, 8, 9, false);
        x.read(0, 12, 7, false);
        Check.rules(x, "keep 3; level 2 last(tremor,1) = 5; level 3 last(tremor,2) = 7; level 4 last(tremor,1) = 9;");
        Check.due("in 10", x.warned(0), 10);
        Check.due("in 12 and its lag", x.warned(1), 17);
        Check.due("a shelter", x.warned(2), -1);
        Check.due("known too late", x.warned(3), -1);
        Check.due("place -1", x.warned(-1), -1);
        Check.due("place 4", x.warned(4), -1);
        Check.rules(x, "level 4 1;");
        Check.due("in 0", x.warned(0), 0);
        Check.due("in 0 and its lag", x.warned(1), 5);
        Check.rules(x, "level 3 count(tremor,48) = 0 and sum(tremor,48) = 0;");
        Check.due("in 0 by gaps", x.warned(1), 5);
        x.hours(87);
        x.read(0, 99, 3, false);
        Check.rules(x, "level 3 last(tremor,1) = 3;");
        Check.due("in 99 and its lag", x.warned(1), 104);
        Check.due("in 99", x.warned(0), 99);
        x.read(0, 99, 4, false);
        Check.due("no longer", x.warned(0), -1);
        x.read(0, 99, 3, false);
        Check.due("again", x.warned(0), 99);
        x.read(0, 99, 3, true);
        Check.due("gone", x.warned(0), -1);
    }

    private static void promise22LedOut() {
        VolcanoWatch x = slopeWarnedIn(10);
        x.town(0, 500, 2, 0);
        x.shelter(9999);
        x.road(0, 1, 1, 10, 1, -1);
        Check.due("10 each in 10 .. 20", x.ledOut(0, 0), 110);
        Check.due("lost", x.ledOut(0, 1), 390);
        Check.due("buried", x.ledOut(0, 2), 0);
        x.ground(3, 0, 7);
        x.ground(4, 999, 50);
        Check.due("buried of cells reached", x.ledOut(0, 2), 7);
        Check.due("what -1", x.ledOut(0, -1), -1);
        Check.due("what 3", x.ledOut(0, 3), -1);
        Check.due("world -1", x.ledOut(-1, 0), -1);
        Check.due("world 1", x.ledOut(1, 0), -1);
        x.road(0, 1, 1, 7, 6, -1);
        Check.due("7 more in 12 and 18", x.ledOut(0, 0), 124);
        x.road(0, 1, 5, 100, 5, -1);
        Check.due("100 more in 10, 15, 20", x.ledOut(0, 0), 424);
        x.road(0, 1, 1, 999, 3, -1);
        Check.due("all", x.ledOut(0, 0), 500);
        Check.due("none lost", x.ledOut(0, 1), 0);
    }

    private static int saved(VolcanoWatch x, int people, int lag, int length, int every, int cell) {
        x.town(0, people, 2, lag);
        x.shelter(9999);
        x.road(0, 1, length, 10, every, cell);
        return x.ledOut(0, 0);
    }

    private static void roadsThatClose() {
        Check.due("warned in 10", saved(slopeWarnedIn(10), 900, 0, 1, 1, -1), 110);
        Check.due("lag 5", saved(slopeWarnedIn(10), 900, 5, 1, 1, -1), 60);
        Check.due("warned in 8", saved(slopeWarnedIn(8), 900, 0, 1, 1, -1), 130);
        Check.due("warned in 3", saved(slopeWarnedIn(3), 900, 0, 1, 1, -1), 130);
        Check.due("warned in 20", saved(slopeWarnedIn(20), 900, 0, 1, 1, -1), 10);
        Check.due("warned in 21, when it is shut", saved(slopeWarnedIn(16), 900, 5, 1, 1, -1), 0);
        Check.due("every 6", saved(slopeWarnedIn(10), 900, 0, 1, 6, -1), 20);
        Check.due("every 5", saved(slopeWarnedIn(10), 900, 0, 5, 5, -1), 30);
        Check.due("over cell 4", saved(slopeWarnedIn(10), 900, 0, 5, 1, 4), 110);
        Check.due("over cell 0, shut from 21 on", saved(slopeWarnedIn(10), 900, 0, 1, 1, 0), 100);
        Check.due("over cell 0, 3 hours", saved(slopeWarnedIn(10), 900, 0, 3, 1, 0), 80);
        Check.due("over cell 2, shut from 22 on", saved(slopeWarnedIn(10), 900, 0, 1, 1, 2), 110);
        Check.due("over cell 2, 2 hours", saved(slopeWarnedIn(10), 900, 0, 2, 1, 2), 100);
        Check.due("over cell 3, shut from 23 on", saved(slopeWarnedIn(10), 900, 0, 5, 1, 3), 80);
    }

    private static void hoursOfWorlds() {
        VolcanoWatch x = slope();
        Check.rules(x, "level 2 1;");
        x.world(5, 0, 10, 1, 1);
        x.world(12, 0, 10, 1, 1);
        x.world(99, 0, 10, 1, 1);
        x.town(0, 900, 1, 0);
        x.shelter(999);
        x.road(0, 1, 1, 10, 1, -1);
        Check.due("0 .. 5", x.ledOut(0, 0), 60);
        Check.due("0 .. 12", x.ledOut(1, 0), 130);
        Check.due("87 .. 99", x.ledOut(2, 0), 130);
        x.shelter(999);
        x.road(1, 2, 5, 1, 6, -1);
        Check.due("a way between shelters changes nothing", x.ledOut(0, 0), 60);
    }

    private static void peopleWhoStay() {
        VolcanoWatch x = slopeWarnedIn(10);
        x.town(4, 100, 4, 0);
        Check.due("not warned, not reached", x.ledOut(0, 0), 100);
        x.town(3, 20, 4, 0);
        Check.due("not warned, reached", x.ledOut(0, 0), 100);
        x.town(4, 3, 2, 5);
        Check.due("warned, not reached", x.ledOut(0, 0), 103);
        x.shelter(50);
        x.road(1, 3, 1, 999, 1, -1);
        Check.due("not warned, none leaves", x.ledOut(0, 0), 103);
        Check.due("lost", x.ledOut(0, 1), 20);
        Check.rules(x, "level 2 count(tremor,48); level 4 gaps(tremor,48) = 27;");
        // gaps are 27 in 26 for the first time, ahead of 10's reading none
        Check.due("warned", x.warned(1), 27);
        Check.due("warned too late", x.ledOut(0, 0), 103);
        Check.rules(x, "level 4 count(tremor,48);");
        Check.due("warned in time", x.ledOut(0, 0), 123);
        VolcanoWatch late = slope();
        late.post(0);
        late.hours(40);
        late.read(0, 40, 1, false);
        Check.rules(late, "level 2 count(tremor,48);");
        late.world(20, 0, 10, 1, 3);
        late.town(5, 70, 2, 0);
        late.town(2, 60, 2, 0);
        Check.due("warned behind Z", late.warned(0), 40);
        Check.due("they stay for ever", late.ledOut(0, 0), 70);
        Check.due("none is in the cut", late.cut(0, 1, 20), 0);
    }

    private static void waysOverPlaces() {
        VolcanoWatch x = slopeWarnedIn(18);
        x.town(0, 100, 2, 0);
        x.shelter(0);
        x.shelter(70);
        x.road(0, 1, 2, 50, 1, -1);
        Check.due("no room", x.ledOut(0, 0), 0);
        x.road(1, 2, 5, 40, 6, -1);
        // 50 come in 20, 50 in 21, and boats leave in 24 alone, for 30 would come in 35
        Check.due("by boat in 24", x.ledOut(0, 0), 40);
        x.road(1, 2, 5, 15, 3, -1);
        Check.due("and in 21, 24, 27", x.ledOut(0, 0), 70);
        x.shelter(9999);
        x.road(2, 3, 3, 5, 1, -1);
        // who came in 26 .. 29 can go on till 29
        Check.due("and on", x.ledOut(0, 0), 85);
        VolcanoWatch y = slopeWarnedIn(18);
        y.town(0, 100, 2, 0);
        y.town(3, 10, 2, 0);
        y.shelter(9999);
        y.road(0, 1, 1, 20, 1, -1);
        y.road(1, 2, 1, 15, 1, -1);
        // into town 1 in 19 .. 21; out of it in 18 .. 22, 10 of its own ahead
        Check.due("through a town", y.ledOut(0, 0), 70);
        y.road(0, 1, 5, 30, 1, -1);
        Check.due("not into a town that is shut", y.ledOut(0, 0), 70);
        y.town(4, 1, 4, 0);
        y.road(0, 3, 5, 3, 1, -1);
        Check.due("into a town that is not reached", y.ledOut(0, 0), 80);
    }

    private static void promise23Cut() {
        VolcanoWatch x = slopeWarnedIn(10);
        x.town(0, 500, 2, 0);
        x.shelter(9999);
        x.road(0, 1, 1, 10, 1, -1);
        Check.due("ahead of warned", x.cut(0, 0, 9), 0);
        Check.due("warned", x.cut(0, 0, 10), 1);
        Check.due("the last hour", x.cut(0, 0, 20), 1);
        Check.due("shut", x.cut(0, 0, 21), 0);
        for (int hour = 8; hour <= 32; hour++) {
            Check.due("the shelter in " + hour, x.cut(0, 1, hour), 0);
        }
        Check.due("hour 7", x.cut(0, 0, 7), -1);
        Check.due("hour 8", x.cut(0, 0, 8), 0);
        Check.due("hour 33", x.cut(0, 0, 33), -1);
        Check.due("place -1", x.cut(0, -1, 10), -1);
        Check.due("place 2", x.cut(0, 2, 10), -1);
        Check.due("world -1", x.cut(-1, 0, 10), -1);
        Check.due("world 1", x.cut(1, 0, 10), -1);
        x.road(0, 1, 1, 999, 1, -1);
        Check.due("all are saved", x.cut(0, 0, 10), 0);
        x.world(99, 0, 10, 1, 1);
        Check.due("hour 86 of 99", x.cut(1, 0, 86), -1);
        Check.due("hour 87 of 99", x.cut(1, 0, 87), 0);
        Check.due("hour 111 of 99", x.cut(1, 0, 111), 0);
        Check.due("hour 112 of 99", x.cut(1, 0, 112), -1);
        VolcanoWatch none = slope();
        none.world(0, 0, 1, 1, 1);
        none.town(0, 5, 1, 0);
        Check.due("not warned", none.cut(0, 0, 0), 0);
        Check.due("hour -1", none.cut(0, 0, -1), -1);
        Check.due("hour 12", none.cut(0, 0, 12), 0);
        Check.due("hour 13", none.cut(0, 0, 13), -1);
        Check.rules(none, "level 1 1;");
        Check.due("warned from 0 on", none.cut(0, 0, 0), 1);
        Check.due("shut in 1", none.cut(0, 0, 1), 0);
    }

    private static void cutOfRoom() {
        VolcanoWatch x = slopeWarnedIn(10);
        x.town(0, 500, 2, 0);
        x.shelter(5);
        x.road(0, 1, 1, 10, 1, -1);
        Check.due("room", x.ledOut(0, 0), 5);
        Check.due("ahead of the first who come", x.cut(0, 1, 10), 0);
        for (int hour = 11; hour <= 32; hour++) {
            Check.due("the shelter in " + hour, x.cut(0, 1, hour), 1);
        }
        VolcanoWatch shut = slopeWarnedIn(18);
        shut.town(0, 9, 2, 5);
        Check.due("warned when it is shut", shut.cut(0, 0, 23), 0);
        Check.due("warned when it is shut", shut.cut(0, 0, 20), 0);
    }

    private static void cutWithOthersLedOtherwise() {
        VolcanoWatch x = slopeWarnedIn(18);
        x.town(0, 10, 2, 0);
        x.town(0, 5, 2, 0);
        x.shelter(8);
        x.shelter(9999);
        x.road(0, 2, 1, 999, 6, -1);
        x.road(1, 2, 1, 999, 6, -1);
        x.road(1, 3, 1, 2, 6, -1);
        // all ways leave in 18: 8 find room in place 2, and 2 of town 1 go to place 3
        Check.due("saved", x.ledOut(0, 0), 10);
        Check.due("town 0", x.cut(0, 0, 18), 1);
        Check.due("town 1", x.cut(0, 1, 18), 1);
        Check.due("place 2", x.cut(0, 2, 19), 1);
        Check.due("place 3", x.cut(0, 3, 19), 0);
        x.road(1, 3, 1, 999, 6, -1);
        // town 1 goes to place 3 wholly, town 0 has all of place 2
        Check.due("saved then", x.ledOut(0, 0), 13);
        Check.due("town 0 then", x.cut(0, 0, 18), 1);
        Check.due("place 2 then", x.cut(0, 2, 32), 1);
        Check.due("town 1 then", x.cut(0, 1, 18), 0);
        Check.due("place 3 then", x.cut(0, 3, 19), 0);
    }

    private static void promise24Cost() {
        VolcanoWatch x = slopeWarnedIn(10);
        Check.due("cost(-1)", x.cost(-1), -1);
        Check.due("cost(2)", x.cost(2), -1);
        Check.due("nothing yet", x.cost(0), 0);
        x.town(0, 50, 4, 0);
        x.ground(2, 10, 9);
        Check.due("lost by weight 3", x.cost(0), 150);
        Check.due("buried by weight 3", x.cost(1), 27);
        x.world(40, 2, 1, 1, 5);
        Check.due("town 0 not reached in the other", x.cost(0), 150);
        Check.due("buried in both", x.cost(1), 72);
        x.world(40, 0, 99, 1, 99);
        Check.due("all three", x.cost(0), 150 + 99 * 50);
        Check.due("all three buried", x.cost(1), 72 + 99 * 9);
    }

    private static void promise25Candidate() {
        VolcanoWatch x = new VolcanoWatch();
        Check.due("candidate(-1)", x.candidate(-1), -1);
        Check.due("candidate(16)", x.candidate(16), -1);
        Check.due("candidate(15)", x.candidate(15), 0);
        Check.due("candidate(15) again", x.candidate(15), -1);
        x.ground(3, 0, 5);
        for (int i = 1; i < 6; i++) {
            Check.due("candidate " + i, x.candidate(4 - i < 0 ? 10 : 4 - i), i);
        }
        Check.due("the seventh", x.candidate(9), -1);
        Check.due("count", x.count(9), 6);
    }

    /** A small stream from 0 to 3, which one work on its way stops. */
    private static VolcanoWatch stream() {
        VolcanoWatch x = new VolcanoWatch();
        x.land(4, 2);
        int[] heights = {3, 2, 1, 0, 999, 999, 999, 999};
        for (int cell = 0; cell < 8; cell++) {
            x.ground(cell, heights[cell], cell == 3 ? 7 : 0);
        }
        x.world(10, 0, 4, 1, 2);
        return x;
    }

    private static void best(String of, VolcanoWatch x, int m, int... due) {
        for (int what = 0; what < 5; what++) {
            Check.due("best " + of + ", what " + what, x.best(m, what), due[what]);
        }
    }

    private static void promise26Best() {
        VolcanoWatch x = stream();
        Check.due("reached", x.reached(0, 3), 3);
        best("without candidates", x, 2, 0, -1, -1, 0, 14);
        x.candidate(2);
        x.candidate(1);
        best("of none", x, 0, 0, -1, -1, 0, 14);
        best("of one", x, 1, 1, 0, -1, 0, 0);
        best("of two: the fewest", x, 2, 1, 0, -1, 0, 0);
        Check.due("nothing is built", x.count(10), 0);
        Check.due("nothing is built", x.reached(0, 3), 3);
        Check.due("cost stays", x.cost(1), 14);
        Check.due("m -1", x.best(-1, 0), -1);
        Check.due("m 3", x.best(3, 0), -1);
        Check.due("what -1", x.best(1, -1), -1);
        Check.due("what 5", x.best(1, 5), -1);
        x.town(2, 30, 1, 0);
        // the town itself is saved by a wall there, and buried by a trench
        best("with a town", x, 1, 1, 0, -1, 0, 0);
        x.world(10, 7, 1, 1, 3);
        x.ground(7, 0, 1);
        best("with what can't be saved", x, 1, 1, 0, -1, 0, 3);
        x.wind(3, 3, 3);
        x.hours(3);
        best("the same behind a wind and hours", x, 1, 1, 0, -1, 0, 3);
    }

    private static void bestByTheRulesForWorks() {
        VolcanoWatch x = stream();
        x.candidate(2);
        x.candidate(1);
        x.ground(2, 1, 5);
        best("where houses are", x, 2, 1, 2, -1, 0, 0);
        x.ground(2, 1, 0);
        x.town(2, 10, 1, 0);
        x.town(1, 10, 1, 0);
        // a wall at 1 saves both
        best("both towns", x, 2, 1, 2, -1, 0, 0);
        x.work(1, true, true);
        x.work(1, false, true);
        best("no more works at 1", x, 1, 1, 0, -1, 20, 0);
        x.work(1, true, false);
        Check.due("the wall at 1", x.reached(0, 1), 13);
        best("already good", x, 2, 0, -1, -1, 0, 0);
        VolcanoWatch y = stream();
        y.candidate(1);
        for (int cell = 4; cell < 7; cell++) {
            y.work(cell, false, true);
        }
        best("the fourth", y, 2, 1, 0, -1, 0, 0);
        y.work(7, false, true);
        best("a fifth", y, 2, 0, -1, -1, 0, 14);
        VolcanoWatch z = stream();
        z.candidate(1);
        z.ground(1, 0, 0);
        z.ground(2, 5, 0);
        z.work(1, false, true);
        z.ground(0, 20, 0);
        Check.due("over the wall", z.reached(0, 3) <= 12, true);
        best("a trench where a wall is", z, 1, 1, 1, -1, 0, 0);
    }

    private static void bestOfPairs() {
        VolcanoWatch x = new VolcanoWatch();
        x.land(8, 2);
        int[] heights = {3, 2, 1, 0, 0, 1, 2, 3};
        for (int cell = 0; cell < 16; cell++) {
            int houses = cell == 3 ? 7 : cell == 4 ? 9 : 0;
            x.ground(cell, cell < 8 ? heights[cell] : 999, houses);
        }
        x.world(0, 0, 4, 1, 1);
        x.world(0, 7, 4, 1, 1);
        x.candidate(6);
        x.candidate(15);
        x.candidate(1);
        best("of one, where more houses are", x, 1, 1, 0, -1, 0, 7);
        best("of two", x, 2, 2, 0, 4, 0, 0);
        x.candidate(5);
        best("of two, the first by numbers", x, 2, 2, 0, 4, 0, 0);
        x.ground(6, 2, 1);
        best("of two, the first by numbers, other ones", x, 2, 2, 4, 6, 0, 1);
        x.town(4, 1, 1, 0);
        x.ground(3, 0, 99);
        best("lost ahead of buried", x, 1, 1, 6, -1, 0, 100);
        for (int cell = 8; cell < 11; cell++) {
            x.work(cell, true, true);
        }
        best("one of two may be", x, 2, 1, 6, -1, 0, 100);
    }

    private static void bestOfTrenchAndWall(int candidatesAhead) {
        VolcanoWatch x = new VolcanoWatch();
        x.land(8, 2);
        int[] heights = {20, 0, 5, 0, 0, 1, 2, 3};
        for (int cell = 0; cell < 16; cell++) {
            x.ground(cell, cell < 8 ? heights[cell] : 999, cell == 3 ? 7 : cell == 4 ? 9 : 0);
        }
        x.work(1, false, true);
        x.world(0, 0, 4, 1, 1);
        x.world(0, 7, 4, 1, 1);
        for (int i = 0; i < candidatesAhead; i++) {
            x.candidate(12 + i);
        }
        x.candidate(1);
        x.candidate(6);
        // 3 and 4 in the one world, 4 in the other
        Check.due("buried", x.cost(1), 25);
        int ahead = 2 * candidatesAhead;
        best("of a trench at a wall and a wall", x, 2, 2, ahead + 1, ahead + 2, 0, 0);
        Check.due("buried still", x.cost(1), 25);
        Check.due("one work still", x.count(10), 1);
        Check.due("a wall still", x.look(1, 2), 1);
    }

    private static void bestForARoad() {
        VolcanoWatch x = stream();
        Check.rules(x, "level 4 1;");
        x.shelter(999);
        x.town(0, 200, 3, 0);
        x.road(1, 0, 5, 10, 1, 3);
        // over cell 3, shut from 13 on: they leave till 7
        Check.due("saved", x.ledOut(0, 0), 80);
        x.ground(3, 0, 0);
        x.candidate(2);
        best("a wall keeps the road open", x, 1, 1, 0, -1, 180, 0);
        x.road(1, 0, 5, 10, 1, 4);
        best("with another road", x, 1, 1, 0, -1, 0, 0);
    }

    private static void bestAnewWhenSomethingChanged() {
        VolcanoWatch x = stream();
        x.candidate(2);
        best("at first", x, 1, 1, 0, -1, 0, 0);
        x.world(0, 3, 1, 1, 5);
        best("with one more world", x, 1, 1, 0, -1, 0, 35);
        Check.due("cost with one more world", x.cost(1), 49);
        x.town(3, 10, 1, 0);
        best("with a town", x, 1, 1, 0, -1, 50, 35);
        x.shelter(99);
        x.road(0, 1, 1, 4, 1, -1);
        Check.rules(x, "level 1 1;");
        // in the second world 4 leave in 0; in the first all have left in time
        best("with a road and a warning", x, 1, 1, 0, -1, 30, 35);
        x.work(2, false, true);
        best("with it built", x, 1, 0, -1, -1, 30, 35);
        x.candidate(0);
        x.ground(0, 3, 1);
        best("with one more house", x, 1, 0, -1, -1, 30, 37);
        x.land(4, 2);
        best("on another land", x, 1, 0, -1, -1, 0, 0);
        Check.due("cost on another land", x.cost(0), 0);
    }
}
