/** The boundaries of part 1 of the document and of promises 1 to 11, but for the language of the rules. */
public final class EdgesOfAlertsTest {
    private static final String BLANKS = "feed 538976288 538976288 538976288 538976288 538976288";

    public static void main(String[] args) {
        newObject();
        theTapeIsFull();
        bytesOfANumber();
        rulesOfTooFewBytes();
        rulesEmptyTheTape();
        faultOfTheLatestRules();
        hoursUpTo99();
        eightPosts();
        readingsUpToNow();
        numbersOfReadings();
        fourHundredReadings();
        fourHundredReadingsOfOneHour();
        knownInTheHourOfTelling();
        theLatestOneTold();
        goneIsMissing();
        hoursBehindNow();
        fiveHundredAndTwelveCalls();
        Check.end("EdgesOfAlertsTest");
    }

    /** Promise 1: NOW 0, 4 by 4 CELLS, nothing else; an empty TAPE. */
    private static void newObject() {
        Scene fresh = Scene.of();
        for (int what = 0; what <= 10; what++) {
            fresh.answers("count " + what, 0);
        }
        fresh.answers("look 15 0", 0);
        fresh.refuses("look 16 0", Scene.NO_CELL);
        fresh.refuses("rules 1", -2);
        fresh.answers("rules 0", 0);
        fresh.answers("feed 0 0 0 0 0", 20);
        fresh.answers("fault 0", 0);
        fresh.answers("fault 1", -1);
        for (int hour = 0; hour <= 99; hour++) {
            fresh.answers("level " + hour, 0);
            fresh.answers("raw " + hour + " 0", 0);
        }
        for (int cell = 0; cell < 16; cell++) {
            for (int what = 0; what <= 2; what++) {
                fresh.answers("look " + cell + " " + what, 0);
            }
            fresh.refuses("reached 0 " + cell, -1);
            fresh.refuses("ash 0 " + cell, -1);
            fresh.refuses("lava 0 0 " + cell + " 0", -1000);
        }
        fresh.refuses("read 0 0 0 0", -1);
        fresh.refuses("reading 0 0 0", -20000);
        fresh.refuses("tries 0 0 0", Long.toString(Long.MIN_VALUE));
        fresh.refuses("warned 0", -1);
        fresh.refuses("ledOut 0 0", -1);
        fresh.refuses("cut 0 0 0", -1);
        fresh.refuses("road 0 1 1 1 1 -1", -1);
        fresh.answers("cost 0", 0);
        fresh.answers("cost 1", 0);
        for (int m = 0; m <= 2; m++) {
            int[] due = {0, -1, -1, 0, 0};
            for (int what = 0; what <= 4; what++) {
                fresh.answers("best " + m + " " + what, due[what]);
            }
        }
        Check.due("NONE", VolcanoWatch.NONE, -1);
    }

    /** Promise 2: NONE, and none come, if it would have more than 500. */
    private static void theTapeIsFull() {
        Scene some = Scene.of("ground 3 5 0", "post 0", "read 0 0 3 0", "wind 5 0 3", "world 5 0 9 2 2", "shelter 9",
            "candidate 9", "work 8 1 1", "rules keep 3; level 2 1;");
        Scene nearlyFull = some.and("text keep 9;").times(23, BLANKS);
        nearlyFull.answers(BLANKS, 500);
        Scene full = nearlyFull.and(BLANKS + " = 500");
        full.refuses(BLANKS, -1);
        full.refuses("feed 2147483647 -2147483648 0 -1 1", -1);
        full.and("feed 1 1 1 1 1 = -1", "feed 2 2 2 2 2 = -1").answers("rules 500", 1);
        full.refuses("rules 501", -2);
        full.and("rules 500 = 1").answers("count 4", 9);
        full.and("rules 500 = 1").answers(BLANKS, 20);
        full.and("rules 501 = -2").answers(BLANKS, -1);
        full.and("rules 0 = 0").answers(BLANKS, 20);
    }

    /** Promise 2: four of each number, the highest first. */
    private static void bytesOfANumber() {
        // A byte that is no token shows where it stands.
        int[] numbers = {0x24202020, 0x20242020, 0x20202420, 0x20202024};
        for (int number = 0; number < 5; number++) {
            for (int at = 0; at < 4; at++) {
                int[] five = {0x20202020, 0x20202020, 0x20202020, 0x20202020, 0x20202020};
                five[number] = numbers[at];
                VolcanoWatch x = new VolcanoWatch();
                x.feed(five[0], five[1], five[2], five[3], five[4]);
                x.rules(20);
                Check.due("place of byte " + at + " of number " + number, x.fault(1), 4 * number + at);
            }
        }
        int[] strange = {Integer.MIN_VALUE, Integer.MAX_VALUE, -1, 0, 1};
        for (int first : strange) {
            VolcanoWatch x = new VolcanoWatch();
            Check.due("feed of " + first, x.feed(first, first, first, first, first), 20);
            Check.due("its bytes are no tokens", x.rules(20), -1);
            Check.due("from the first on", x.fault(1), 0);
        }
        VolcanoWatch x = new VolcanoWatch();
        // 160 is 32 and the highest bit of a byte: no blank
        x.feed(0x202020a0, 0x20202020, 0x20202020, 0x20202020, 0x20202020);
        x.rules(20);
        Check.due("the highest bit of a byte counts", x.fault(1), 3);
        x.feed(0xa0202020, 0x20202020, 0x20202020, 0x20202020, 0x20202020);
        x.rules(20);
        Check.due("the highest bit of a number counts", x.fault(1), 0);
    }

    /** Promise 3: -2, and the TAPE stays: there are not so many, n is below 0. */
    private static void rulesOfTooFewBytes() {
        Scene twenty = Scene.of("rules keep 4; level 1 1;", "text keep 3; level 3 1; ");
        for (int n : new int[] {Integer.MIN_VALUE, -2147483647, -2, -1, 21, 22, 500, 501, 2147483646, 2147483647}) {
            twenty.refuses("rules " + n, -2);
        }
        twenty.answers("rules 20", 2);
        twenty.answers("rules 18", 2);
        twenty.answers("rules 17", -1);
        twenty.answers("rules 0", 0);
        Scene none = Scene.of("rules 0 = 0");
        none.refuses("rules 1", -2);
        none.refuses("rules -1", -2);
        none.answers("rules 0", 0);
    }

    /** Promise 3: the TAPE is empty then, with a FAULT too, and whatever was behind the first n. */
    private static void rulesEmptyTheTape() {
        Scene forty = Scene.of("text keep 3;             level 2 1;");
        for (int n : new int[] {0, 1, 7, 8, 20, 30, 31, 40}) {
            forty.and("rules " + n).answers("rules 1", -2);
            forty.and("rules " + n).answers(BLANKS, 20);
        }
        forty.and("rules 41").answers(BLANKS, 60);
        forty.and("rules 7 = 1").answers("count 4", 3);
        forty.and("rules 7 = 1").answers("count 3", 0);
        forty.and("rules 30 = 2").answers("count 3", 1);
        Scene.of("rules keep 9; level 4 1;", "rules 0 = 0").answers("count 4", 0);
        Scene.of("rules keep 9; level 4 1;", "rules 0 = 0").answers("count 3", 0);
        Scene.of("rules keep 9; level 4 1;", "rules 0 = 0").answers("count 5", 0);
        Scene.of("rules keep 9; level 4 1;", "rules 0 = 0").answers("level 0", 0);
    }

    /** Promise 4: of the latest rules() that was not -2; NONE for another what. */
    private static void faultOfTheLatestRules() {
        Scene faulty = Scene.of("text  keep 25;", "rules 9 = -1");
        faulty.answers("fault 0", 2);
        faulty.answers("fault 1", 6);
        faulty.and("rules 1 = -2").answers("fault 0", 2);
        faulty.and("rules -1 = -2").answers("fault 1", 6);
        faulty.and("rules 0 = 0").answers("fault 0", 0);
        faulty.and("rules 0 = 0").answers("fault 1", -1);
        faulty.and("feed 0 0 0 0 0", "rules 20 = -1").answers("fault 0", 1);
        faulty.and("feed 0 0 0 0 0", "rules 20 = -1").answers("fault 1", 0);
        for (int what : new int[] {Integer.MIN_VALUE, -1, 2, 3, Integer.MAX_VALUE}) {
            faulty.refuses("fault " + what, -1);
        }
    }

    /** Promise 5: 0 .. 99; NONE, and nothing happens: no such number, beyond 99. */
    private static void hoursUpTo99() {
        for (int now : new int[] {0, 1, 50, 98, 99}) {
            Scene at = Scene.of("post 0", "hours " + now + " = " + now);
            at.answers("hours 0", now);
            at.answers("hours " + (99 - now), 99);
            at.refuses("hours " + (100 - now), -1);
            for (int n : new int[] {Integer.MIN_VALUE, -100, -99, -1, 100, 2147483548, 2147483647}) {
                at.refuses("hours " + n, -1);
            }
        }
        Scene.of("hours 60", "hours 39").answers("count 0", 99);
        Scene.of("hours 60").refuses("hours 60", -1);
    }

    /** At most 8 POSTS, numbered from 0 on; promise 6: NONE: no such KIND, or there are 8. */
    private static void eightPosts() {
        Scene seven = Scene.of("post 0 = 0", "post 1 = 1", "post 2 = 2", "post 3 = 3", "post 3 = 4", "post 2 = 5",
            "post 1 = 6");
        seven.refuses("post 4", -1);
        seven.refuses("read 7 0 1 0", -1);
        seven.refuses("reading 7 0 0", -20000);
        for (int kind = 0; kind <= 3; kind++) {
            seven.answers("post " + kind, 7);
            Scene eight = seven.and("post " + kind + " = 7", "read 7 0 5 0 = 1");
            eight.answers("count 1", 8);
            eight.answers("reading 7 0 0", 5);
            for (int more = -1; more <= 4; more++) {
                eight.refuses("post " + more, -1);
            }
            eight.refuses("post -2147483648", -1);
            eight.refuses("post 2147483647", -1);
            eight.refuses("read 8 0 5 0", -1);
            eight.refuses("reading 8 0 0", -20000);
        }
    }

    /** A READING of a POST for an HOUR (NOW at most). */
    private static void readingsUpToNow() {
        for (int now : new int[] {0, 1, 42, 99}) {
            Scene at = Scene.of("post 0", "hours " + now);
            at.answers("read 0 0 5 0", 1);
            at.answers("read 0 " + now + " 5 0", 1);
            at.answers("read 0 " + now + " 5 1", 1);
            at.refuses("read 0 " + (now + 1) + " 5 0", -1);
            at.refuses("read 0 " + (now + 1) + " 5 1", -1);
            at.refuses("read 0 -1 5 0", -1);
            at.refuses("read 0 -1 5 1", -1);
            at.refuses("read 0 100 5 0", -1);
            at.refuses("read 0 -2147483648 5 0", -1);
            at.refuses("read 0 2147483647 5 1", -1);
        }
    }

    /** A number -9999 .. 9999; gone: v isn't looked at. */
    private static void numbersOfReadings() {
        Scene post = Scene.of("post 0", "post 1", "read 1 0 4 0");
        for (int v : new int[] {-9999, -1, 0, 1, 9999}) {
            post.and("read 0 0 " + v + " 0 = 2").answers("reading 0 0 0", v);
            post.and("read 0 0 " + v + " 1 = 2").answers("reading 0 0 0", -10000);
        }
        for (int v : new int[] {Integer.MIN_VALUE, -20000, -10000, 10000, 20000, Integer.MAX_VALUE}) {
            post.refuses("read 0 0 " + v + " 0", -1);
            post.and("read 0 0 " + v + " 1 = 2").answers("reading 0 0 0", -10000);
            post.and("read 1 0 " + v + " 0 = -1").answers("reading 1 0 0", 4);
        }
    }

    /** At most 400 READINGS in all, those that are gone among them. */
    private static void fourHundredReadings() {
        Scene nearly = Scene.of("post 0", "post 2", "hours 3");
        for (int i = 1; i <= 399; i++) {
            nearly = nearly.and("read " + i % 2 + " " + i % 4 + " " + i + " " + (i % 7 == 0 ? 1 : 0) + " = " + i);
        }
        nearly.answers("read 0 3 77 0", 400);
        nearly.answers("read 0 3 77 1", 400);
        nearly.refuses("read 0 4 77 0", -1);
        Scene full = nearly.and("read 0 3 77 0 = 400");
        full.refuses("read 0 3 78 0", -1);
        full.refuses("read 1 0 78 0", -1);
        full.refuses("read 1 0 78 1", -1);
        full.answers("count 2", 400);
        full.answers("reading 0 3 3", 77);
        full.answers("reading 1 3 3", -10000);
        full.answers("reading 1 1 3", 397);
        full.and("hours 5").answers("read 0 6 1 0", -1);
    }

    private static void fourHundredReadingsOfOneHour() {
        VolcanoWatch x = new VolcanoWatch();
        x.post(0);
        for (int i = 1; i <= 99; i++) {
            for (int j = 1; j <= 4; j++) {
                Check.due("reading in " + (i - 1), x.read(0, 0, 10 * i + j, false), 4 * (i - 1) + j);
            }
            x.hours(1);
        }
        Check.due("as known in 0", x.reading(0, 0, 0), 14);
        Check.due("as known in 49", x.reading(0, 0, 49), 504);
        Check.due("as known in 98", x.reading(0, 0, 98), 994);
        Check.due("as known in 99", x.reading(0, 0, 99), 994);
    }

    /** As KNOWN in an HOUR k: the latest one told in k or ahead. */
    private static void knownInTheHourOfTelling() {
        Scene told = Scene.of("post 0", "hours 7", "read 0 3 5 0 = 1", "hours 4", "read 0 3 6 0 = 2", "read 0 11 8 0 = 3");
        int[][] dues = {{3, 0, -10000}, {3, 3, -10000}, {3, 6, -10000}, {3, 7, 5}, {3, 10, 5}, {3, 11, 6}, {3, 99, 6},
            {11, 10, -10000}, {11, 11, 8}, {11, 99, 8}, {2, 99, -10000}, {4, 99, -10000}, {0, 99, -10000},
            {99, 99, -10000}};
        for (int[] due : dues) {
            told.answers("reading 0 " + due[0] + " " + due[1], due[2]);
        }
        told.refuses("reading 0 100 0", -20000);
        told.refuses("reading 0 0 100", -20000);
        told.refuses("reading 1 0 0", -20000);
    }

    private static void theLatestOneTold() {
        Scene told = Scene.of("post 0", "post 0", "read 0 0 1 0", "read 0 0 2 0", "read 1 0 9 0", "read 0 0 3 0");
        told.answers("reading 0 0 0", 3);
        told.answers("reading 1 0 0", 9);
        told.and("hours 99", "read 0 0 4 0", "read 0 99 5 0").answers("reading 0 0 98", 3);
        told.and("hours 99", "read 0 0 4 0", "read 0 99 5 0").answers("reading 0 0 99", 4);
        told.and("hours 99", "read 0 0 4 0", "read 0 99 5 0").answers("reading 0 99 99", 5);
        told.and("hours 99", "read 0 0 4 0", "read 0 99 5 0").answers("reading 0 99 98", -10000);
    }

    private static void goneIsMissing() {
        Scene told = Scene.of("post 0", "read 0 0 1 0", "hours 1", "read 0 0 1 1", "hours 1", "read 0 0 2 0");
        told.answers("reading 0 0 0", 1);
        told.answers("reading 0 0 1", -10000);
        told.answers("reading 0 0 2", 2);
        told.answers("count 2", 3);
        Scene of = told.and("rules level 1 gaps(tremor,1); level 2 count(tremor,1); level 3 last(tremor,1) = 2;");
        of.answers("raw 0 0", 2);
        of.answers("raw 0 1", 1);
        of.answers("raw 0 2", 3);
    }

    /** HOURS behind NOW are asked for as others are. */
    private static void hoursBehindNow() {
        Scene told = Scene.of("post 0", "hours 2", "read 0 2 6 0",
            "rules keep 1; level 2 last(tremor,48) = 6; level 1 gaps(tremor,2) = 2;");
        told.answers("reading 0 99 99", -10000);
        told.answers("raw 2 2", 2);
        told.answers("raw 49 99", 2);
        told.answers("raw 50 99", 1);
        told.answers("level 50", 2);
        told.answers("level 51", 1);
        told.answers("tries 0 49 2", 1);
        told.answers("tries 0 50 2", Long.MIN_VALUE);
        told.answers("tries 0 49 1", Long.MIN_VALUE);
    }

    /** An object is used for at most 512 calls: the last of them is answered as the first. */
    private static void fiveHundredAndTwelveCalls() {
        VolcanoWatch x = new VolcanoWatch();
        x.post(0);
        for (int i = 1; i <= 400; i++) {
            x.read(0, 0, i, false);
        }
        for (int i = 402; i < 510; i++) {
            Check.due("level as call " + i, x.level(i % 100), 0);
        }
        Check.due("call 510", x.feed(0x6c657665, 0x6c203420, 0x313b2020, 0x20202020, 0x20202020), 20);
        Check.due("call 511", x.rules(20), 1);
        Check.due("call 512", x.raw(99, 0), 4);
    }
}
