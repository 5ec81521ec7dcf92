/** Promises 1 to 11: a new object, the tape, the rules, hours, posts, readings and levels. */
public final class AlertsTest {
    private static final long NO_VALUE = Long.MIN_VALUE;

    public static void main(String[] args) {
        promise1NewObject();
        promise2Feed();
        promise3Rules();
        promise4Fault();
        faultsOfTokens();
        faultsOfTooMuch();
        faultsOfKeep();
        promise5Hours();
        promise6Post();
        promise7Read();
        promise8Reading();
        promise9Raw();
        promise10Tries();
        windows();
        valuesOfSigns();
        valuesThatAreNone();
        promise11Level();
        Check.end("AlertsTest");
    }

    private static void promise1NewObject() {
        VolcanoWatch x = new VolcanoWatch();
        for (int what = 0; what <= 10; what++) {
            Check.due("new: count(" + what + ")", x.count(what), 0);
        }
        Check.due("new: look(15, 0)", x.look(15, 0), 0);
        Check.due("new: reading(0, 0, 0)", x.reading(0, 0, 0), -20000);
        Check.due("new: reached(0, 0)", x.reached(0, 0), -1);
        Check.due("new: rules(1)", x.rules(1), -2);
        Check.due("new: fault(0)", x.fault(0), 0);
        Check.due("new: fault(1)", x.fault(1), -1);
        Check.due("new: level(99)", x.level(99), 0);
        Check.due("new: cost(0)", x.cost(0), 0);
        Check.due("new: best(2, 0)", x.best(2, 0), 0);
        Check.due("new: feed", x.feed(0, 0, 0, 0, 0), 20);
        Check.due("NONE", VolcanoWatch.NONE, -1);
    }

    private static void promise2Feed() {
        VolcanoWatch x = new VolcanoWatch();
        int blanks = 0x20202020;
        for (int i = 1; i <= 25; i++) {
            Check.due("feed " + i, x.feed(blanks, blanks, blanks, blanks, blanks), 20 * i);
        }
        Check.due("feed beyond 500", x.feed(blanks, blanks, blanks, blanks, blanks), -1);
        Check.due("rules(501) of 500", x.rules(501), -2);
        Check.due("rules(500) of 500", x.rules(500), 0);
        Check.due("feed, the highest byte first", x.feed(0x6b656570, 0x2020200a, 0x20203137, 0x3b202020, blanks), 20);
        Check.due("rules(20)", x.rules(20), 1);
        Check.due("keep", x.count(4), 17);
        x.feed(blanks, 0x202020ff, blanks, blanks, blanks);
        Check.due("rules with a byte 255", x.rules(20), -1);
        Check.due("its place", x.fault(1), 7);
        x.feed(-1, -1, -1, -1, -1);
        Check.due("rules(0) of 20", x.rules(0), 0);
    }

    private static void promise3Rules() {
        VolcanoWatch x = new VolcanoWatch();
        Check.due("rules(-1)", x.rules(-1), -2);
        Check.due("rules(least)", x.rules(Integer.MIN_VALUE), -2);
        Check.due("rules(most)", x.rules(Integer.MAX_VALUE), -2);
        Check.feed(x, "level 3 1; level 2 0; keep 5; level 4 0;");
        Check.due("rules(41) of 40", x.rules(41), -2);
        Check.due("rules(10): the first of them", x.rules(10), 1);
        Check.due("then: lines of level", x.count(3), 1);
        Check.due("then: the tape is empty", x.rules(1), -2);
        Check.due("four lines", Check.rules(x, "level 3 1; level 2 0; keep 5; level 4 0;"), 4);
        Check.due("lines of level", x.count(3), 3);
        Check.due("keep", x.count(4), 5);
        Check.due("knots", x.count(5), 3);
        Check.due("with a fault", Check.rules(x, "keep 1; level 1 1; level 1 ;"), -1);
        Check.due("former rules stay: lines", x.count(3), 3);
        Check.due("former rules stay: keep", x.count(4), 5);
        Check.due("former rules stay: knots", x.count(5), 3);
        Check.due("former rules stay: raw", x.raw(0, 0), 3);
        Check.due("with a fault the tape is empty", x.rules(1), -2);
        Check.due("rules(0)", x.rules(0), 0);
        Check.due("no rules: lines", x.count(3), 0);
        Check.due("no rules: keep", x.count(4), 0);
        Check.due("no rules: raw", x.raw(0, 0), 0);
        cutOff(x, "keep 123;", 6, 1, 6);
        cutOff(x, "keepsake", 4, 1, 4);
        cutOff(x, "level 1 1<=2;", 10, 1, 10);
        cutOff(x, "level 1 1<>2;", 10, 1, 10);
        cutOff(x, "level 1 12;", 9, 1, 9);
        Check.due("blanks alone", Check.rules(x, " \n \n"), 0);
        Check.due("no blanks", Check.rules(x, "level1not1and-1;keep0;"), 2);
        Check.due("zeros ahead", Check.rules(x, "level 01 000000000000000000000001;keep 0024;"), 2);
    }

    private static void cutOff(VolcanoWatch x, String text, int n, int kind, int place) {
        Check.feed(x, text);
        Check.due("the first " + n + " of '" + text + "'", x.rules(n), -1);
        Check.due("its fault", x.fault(0), kind);
        Check.due("its place", x.fault(1), place);
    }

    private static void promise4Fault() {
        VolcanoWatch x = new VolcanoWatch();
        Check.due("fault(-1)", x.fault(-1), -1);
        Check.due("fault(2)", x.fault(2), -1);
        Check.rules(x, "keep 1; keep 1;");
        Check.due("fault(0)", x.fault(0), 3);
        Check.due("fault(1)", x.fault(1), 8);
        Check.due("fault(2) with a fault", x.fault(2), -1);
        x.rules(1);
        Check.due("fault(0) behind -2", x.fault(0), 3);
        Check.due("fault(1) behind -2", x.fault(1), 8);
        Check.rules(x, "keep 1;");
        Check.due("fault(0) behind good ones", x.fault(0), 0);
        Check.due("fault(1) behind good ones", x.fault(1), -1);
    }

    private static void fault(String text, int kind, int place) {
        VolcanoWatch x = new VolcanoWatch();
        Check.due("rules of '" + text + "'", Check.rules(x, text) == -1, kind != 0);
        Check.due("fault of '" + text + "'", x.fault(0), kind);
        Check.due("its place in '" + text + "'", x.fault(1), place);
    }

    private static void faultsOfTokens() {
        fault("$", 1, 0);
        fault("  ;", 1, 2);
        fault("keep", 1, 4);
        fault("keep  ", 1, 6);
        fault("keep x;", 1, 5);
        fault("keep 3", 1, 6);
        fault("keep 3,", 1, 6);
        fault("keep 3; \t", 1, 8);
        fault("Level 1 1;", 1, 0);
        fault("levels 1 1;", 1, 0);
        fault("keepz 1;", 1, 0);
        fault("akeep 1;", 1, 0);
        fault("kee 1;", 1, 0);
        fault("level 1 1; or", 1, 11);
        fault("level 1 1; 2;", 1, 11);
        fault("level ;", 1, 6);
        fault("level 1;", 1, 7);
        fault("level 1 1 1;", 1, 10);
        fault("level 1 1 not 1;", 1, 10);
        fault("level 1 1 + not 1;", 1, 12);
        fault("level 1 - not 1;", 1, 10);
        fault("level 1 1 < not 1;", 1, 12);
        fault("level 1 not - not 1;", 1, 14);
        fault("level 1 not not 1;", 0, -1);
        fault("level 1 not - - 1;", 0, -1);
        fault("level 1 1 and not 1 or not 1;", 0, -1);
        fault("level 1 (not 1) + (not 2 < 3);", 0, -1);
        fault("level 1 1 < 2 < 3;", 1, 14);
        fault("level 1 1 < 2 = 3;", 1, 14);
        fault("level 1 (1 < 2 < 3);", 1, 15);
        fault("level 1 (1 < 2) < 3;", 0, -1);
        fault("level 1 1 < (2 < 3) < 4;", 1, 20);
        fault("level 1 1 < 2 and 3 < 4 or 5 < 6;", 0, -1);
        fault("level 1 not 1 < 2 < 3;", 1, 18);
        fault("level 1 1 < = 2;", 1, 12);
        fault("level 1 1 < > 2;", 1, 12);
        fault("level 1 1 > = 2;", 1, 12);
        fault("level 1 1 >> 2;", 1, 11);
        fault("level 1 1 <>= 2;", 1, 12);
        fault("level 1 1 =< 2;", 1, 11);
        fault("level 1 1 == 2;", 1, 11);
        fault("level 1 1 <= 2 or 1 <> 2 or 1 >= 2;", 0, -1);
        fault("level 1 (1;", 1, 10);
        fault("level 1 (1", 1, 10);
        fault("level 1 1);", 1, 9);
        fault("level 1 ();", 1, 9);
        fault("level 1 + 1;", 1, 8);
        fault("level 1 1 +;", 1, 11);
        fault("level 1 1 and;", 1, 13);
        fault("level 1 tremor;", 1, 8);
        fault("level 1 sum;", 1, 11);
        fault("level 1 sum(;", 1, 12);
        fault("level 1 sum(sum,1);", 1, 12);
        fault("level 1 sum(gas 1);", 1, 16);
        fault("level 1 sum(gas,);", 1, 16);
        fault("level 1 sum(gas,-1);", 1, 16);
        fault("level 1 sum(gas,1;", 1, 17);
        fault("level 1 sum(gas,1", 1, 17);
        fault("level 1 sum(gas,1+1);", 1, 17);
        fault("level 1 summ(gas,1);", 1, 8);
        fault("level 1 sum(gases,1);", 1, 12);
        fault("level 1 keep;", 1, 8);
        fault("level 1 1.5;", 1, 9);
        fault("level 1 1" + (char) 160 + ";", 1, 9);
        fault("level 1 1\r;", 1, 9);
        fault("level 1 1" + (char) 0 + ";", 1, 9);
        fault("level 1 @1;", 1, 8);
        fault("level 1 `;", 1, 8);
        fault("level 1 {;", 1, 8);
        fault("level 1 1:;", 1, 9);
    }

    private static String times(int n, String text) {
        return text.repeat(n);
    }

    private static void faultsOfTooMuch() {
        fault("keep 24;", 0, -1);
        fault("keep 25;", 2, 5);
        fault("keep 99999999999999999999999999;", 2, 5);
        fault("keep 4294967296;", 2, 5);
        fault("level 4 1;", 0, -1);
        fault("level 0 1;", 2, 6);
        fault("level 5 1;", 2, 6);
        fault("level 1 99999;", 0, -1);
        fault("level 1 100000;", 2, 8);
        fault("level 1 4294967297;", 2, 8);
        fault("level 1 sum(gas,48);", 0, -1);
        fault("level 1 sum(gas,49);", 2, 16);
        fault("level 1 sum(gas,0);", 2, 16);
        fault("level 1 sum(gas,18446744073709551617);", 2, 16);
        fault("level 1 ((((((((1))))))));", 0, -1);
        fault("level 1 (((((((((1)))))))));", 2, 16);
        fault("level 1 (((((((sum(gas,1))))))));", 0, -1);
        fault("level 1 ((((((((sum(gas,1)))))))));", 2, 19);
        fault("level 1 (((((((1))))))) + (((((((sum(gas,1))))))));", 0, -1);
        fault("level 1 1((((((((((1;", 1, 9);
        // a minus and a 1, then 31 times a sign and a number: 64 knots
        String full = "level 1 -1" + times(31, "+1");
        fault(full + ";", 0, -1);
        fault(full + "*;", 2, full.length());
        fault(full + " or 1;", 2, full.length() + 1);
        fault(full + "<1;", 2, full.length());
        fault(full + ")1;", 1, full.length());
        fault(full + "1;", 0, -1);
        fault(full + " not;", 1, full.length() + 1);
        fault(full + ";level 2 (1);", 2, full.length() + 10);
        fault(full + ";level 2 not 1;", 2, full.length() + 9);
        fault(full + ";level 2 - 1;", 2, full.length() + 9);
        fault(full + ";level 2 sum(gas,0);", 2, full.length() + 9);
        fault(full + ";level 2 gas;", 1, full.length() + 9);
        fault(full + ";level 2 );", 1, full.length() + 9);
        fault(full + ";level 2 ", 1, full.length() + 9);
        fault(full + ";keep 3;", 0, -1);
        String nearlyFull = "level 1 1" + times(31, "+1");
        fault(nearlyFull + "*;", 1, nearlyFull.length() + 1);
        fault(nearlyFull + "*100000;", 2, nearlyFull.length() + 1);
        fault(nearlyFull + "*);", 1, nearlyFull.length() + 1);
        fault("level 1 " + times(63, "not ") + "1;", 0, -1);
        fault("level 1 " + times(64, "not ") + "1;", 2, 8 + 256);
        fault("level 1 " + times(63, "-") + "1;", 0, -1);
        fault("level 1 " + times(65, "-") + "1;", 2, 8 + 64);
        fault("level 1 " + times(490, "("), 2, 16);
        fault(times(12, "level 1 1;") + "keep 1;", 0, -1);
        fault(times(13, "level 1 1;"), 2, 120);
        fault(times(12, "level 1 1;") + "level", 2, 120);
        VolcanoWatch x = new VolcanoWatch();
        Check.rules(x, full + ";");
        Check.due("64 knots", x.count(5), 64);
        Check.due("their value", x.tries(0, 0, 0), 30);
        Check.rules(x, "keep 3; level 2 not 1 and -(sum(gas,3) + 4) <= 2 or 1 <> 2 * 3 / 4;");
        Check.due("knots", x.count(5), 17);
    }

    private static void faultsOfKeep() {
        fault("keep 1; level 1 1; keep 1;", 3, 19);
        fault("keep 1; keep", 3, 8);
        fault("keep 1; keep 99;", 3, 8);
        fault("keep 99; keep 1;", 2, 5);
        fault("keep 0; keep 0;", 3, 8);
    }

    private static void promise5Hours() {
        VolcanoWatch x = new VolcanoWatch();
        Check.due("hours(-1)", x.hours(-1), -1);
        Check.due("hours(100)", x.hours(100), -1);
        Check.due("hours(most)", x.hours(Integer.MAX_VALUE), -1);
        Check.due("hours(0)", x.hours(0), 0);
        Check.due("hours(98)", x.hours(98), 98);
        Check.due("hours(2) of 98", x.hours(2), -1);
        Check.due("hours(most) of 98", x.hours(Integer.MAX_VALUE), -1);
        Check.due("count(0)", x.count(0), 98);
        Check.due("hours(1) of 98", x.hours(1), 99);
        Check.due("hours(0) of 99", x.hours(0), 99);
        Check.due("hours(99) at once", new VolcanoWatch().hours(99), 99);
    }

    private static void promise6Post() {
        VolcanoWatch x = new VolcanoWatch();
        Check.due("post(-1)", x.post(-1), -1);
        Check.due("post(4)", x.post(4), -1);
        for (int i = 0; i < 8; i++) {
            Check.due("post " + i, x.post(i % 4), i);
        }
        Check.due("post 8", x.post(0), -1);
        Check.due("count(1)", x.count(1), 8);
    }

    private static void promise7Read() {
        VolcanoWatch x = new VolcanoWatch();
        Check.due("read without a post", x.read(0, 0, 0, false), -1);
        x.post(1);
        x.hours(3);
        Check.due("read of post -1", x.read(-1, 0, 0, false), -1);
        Check.due("read of post 1", x.read(1, 0, 0, false), -1);
        Check.due("read for hour -1", x.read(0, -1, 0, false), -1);
        Check.due("read for hour 4 in 3", x.read(0, 4, 0, false), -1);
        Check.due("read 10000", x.read(0, 0, 10000, false), -1);
        Check.due("read -10000", x.read(0, 0, -10000, false), -1);
        Check.due("count(2)", x.count(2), 0);
        Check.due("read 9999", x.read(0, 3, 9999, false), 1);
        Check.due("read -9999", x.read(0, 0, -9999, false), 2);
        Check.due("gone, whatever v", x.read(0, 1, Integer.MIN_VALUE, true), 3);
        Check.due("gone of no post", x.read(2, 1, 0, true), -1);
        for (int i = 4; i <= 400; i++) {
            Check.due("read " + i, x.read(0, i % 4, i, i % 5 == 0), i);
        }
        Check.due("read 401", x.read(0, 0, 1, false), -1);
        Check.due("gone 401", x.read(0, 0, 1, true), -1);
        Check.due("count(2) of 400", x.count(2), 400);
        Check.due("the latest of hour 3", x.reading(0, 3, 3), 399);
        Check.due("the latest of hour 0", x.reading(0, 0, 3), -10000);
    }

    private static void promise8Reading() {
        VolcanoWatch x = new VolcanoWatch();
        x.post(0);
        x.post(0);
        x.hours(5);
        x.read(0, 2, 7, false);
        x.read(0, 2, 8, false);
        x.hours(5);
        x.read(0, 2, 9, false);
        x.hours(5);
        x.read(0, 2, 0, true);
        x.hours(5);
        x.read(0, 2, -1, false);
        Check.due("as known ahead", x.reading(0, 2, 4), -10000);
        Check.due("the later one of an hour", x.reading(0, 2, 5), 8);
        Check.due("as known in 9", x.reading(0, 2, 9), 8);
        Check.due("as known in 10", x.reading(0, 2, 10), 9);
        Check.due("gone in 15", x.reading(0, 2, 15), -10000);
        Check.due("back in 20", x.reading(0, 2, 20), -1);
        Check.due("as known in 99", x.reading(0, 2, 99), -1);
        Check.due("of the other post", x.reading(1, 2, 99), -10000);
        Check.due("of the other hour", x.reading(0, 3, 99), -10000);
        Check.due("post -1", x.reading(-1, 2, 5), -20000);
        Check.due("post 2", x.reading(2, 2, 5), -20000);
        Check.due("hour -1", x.reading(0, -1, 5), -20000);
        Check.due("hour 100", x.reading(0, 100, 5), -20000);
        Check.due("k -1", x.reading(0, 2, -1), -20000);
        Check.due("k 100", x.reading(0, 2, 100), -20000);
        Check.due("hour 99", x.reading(0, 99, 99), -10000);
    }

    private static void promise9Raw() {
        VolcanoWatch x = new VolcanoWatch();
        x.post(2);
        x.hours(1);
        x.read(0, 0, 5, false);
        x.hours(1);
        x.read(0, 2, -1, false);
        Check.rules(x, "level 2 last(gas,3) = 5; level 3 max(gas,1) < 0; level 1 count(gas,1) - 1; level 4 1/0;");
        Check.due("raw(0, 0): nothing known", x.raw(0, 0), 1);
        Check.due("raw(0, 1)", x.raw(0, 1), 2);
        Check.due("raw(1, 1)", x.raw(1, 1), 2);
        Check.due("raw(2, 1)", x.raw(2, 1), 2);
        Check.due("raw(2, 2)", x.raw(2, 2), 3);
        Check.due("raw(0, 99)", x.raw(0, 99), 2);
        Check.due("raw(99, 99)", x.raw(99, 99), 1);
        Check.due("raw(-1, 0)", x.raw(-1, 0), -1);
        Check.due("raw(100, 0)", x.raw(100, 0), -1);
        Check.due("raw(0, -1)", x.raw(0, -1), -1);
        Check.due("raw(0, 100)", x.raw(0, 100), -1);
        Check.rules(x, "level 3 1; level 4 0; level 2 1; level 1 -1;");
        Check.due("the greatest that holds", x.raw(7, 3), 3);
    }

    private static long value(VolcanoWatch x, String expression, int hour, int k) {
        Check.due("rules of " + expression, Check.rules(x, "level 1 " + expression + ";"), 1);
        return x.tries(0, hour, k);
    }

    private static void promise10Tries() {
        VolcanoWatch x = new VolcanoWatch();
        Check.due("tries without lines", x.tries(0, 0, 0), NO_VALUE);
        Check.rules(x, "level 1 11; keep 2; level 4 12; level 2 13;");
        Check.due("tries(0)", x.tries(0, 0, 0), 11);
        Check.due("tries(1)", x.tries(1, 99, 0), 12);
        Check.due("tries(2)", x.tries(2, 0, 99), 13);
        Check.due("tries(3)", x.tries(3, 0, 0), NO_VALUE);
        Check.due("tries(-1)", x.tries(-1, 0, 0), NO_VALUE);
        Check.due("tries hour -1", x.tries(0, -1, 0), NO_VALUE);
        Check.due("tries hour 100", x.tries(0, 100, 0), NO_VALUE);
        Check.due("tries k -1", x.tries(0, 0, -1), NO_VALUE);
        Check.due("tries k 100", x.tries(0, 0, 100), NO_VALUE);
        Check.rules(x, times(12, "level 1 5;"));
        Check.due("tries(11)", x.tries(11, 0, 0), 5);
        Check.due("tries(12)", x.tries(12, 0, 0), NO_VALUE);
        Check.rules(x, "level 1 6;");
        Check.due("one line", x.tries(0, 0, 0), 6);
        Check.due("no second line", x.tries(1, 0, 0), NO_VALUE);
        Check.rules(x, "level 1 7;");
        Check.due("no second line either", x.tries(1, 0, 0), NO_VALUE);
        Check.due("63 times not", value(x, times(63, "not ") + "1", 0, 0), 0);
        Check.due("63 times -", value(x, times(63, "-") + "3", 0, 0), -3);
        Check.due("8 open behind 63 of not", value(x, times(63, "not ") + times(8, "(") + "2" + times(8, ")"), 0, 0), 0);
        Check.due("all waiting at once", value(x, times(8, "(" + times(6, "-")) + "9" + times(8, ")"), 0, 0), 9);
    }

    private static void windows() {
        VolcanoWatch x = new VolcanoWatch();
        x.post(3);
        x.post(1);
        x.post(3);
        x.hours(9);
        x.read(0, 2, -4, false);
        x.read(2, 2, -7, false);
        x.read(1, 2, 1000, false);
        x.read(0, 4, 6, false);
        x.read(2, 6, 3, false);
        x.read(0, 6, 2, false);
        x.read(0, 7, 50, false);
        x.read(0, 7, 0, true);
        String[] whats = {"last", "first", "sum", "max", "min", "count", "gaps"};
        long[] from2to7 = {3, -4, 0, 6, -7, 5, 7};
        long[] from5to5 = {NO_VALUE, NO_VALUE, 0, NO_VALUE, NO_VALUE, 0, 2};
        long[] from0to2 = {-4, -4, -11, -4, -7, 2, 4};
        long[] ofNoPost = {NO_VALUE, NO_VALUE, 0, NO_VALUE, NO_VALUE, 0, 0};
        for (int i = 0; i < whats.length; i++) {
            Check.due(whats[i] + " 2 .. 7", value(x, whats[i] + "(heat,6)", 7, 9), from2to7[i]);
            Check.due(whats[i] + " 5", value(x, whats[i] + "(heat,1)", 5, 9), from5to5[i]);
            Check.due(whats[i] + " 0 .. 2", value(x, whats[i] + "(heat,48)", 2, 9), from0to2[i]);
            Check.due(whats[i] + " of no post", value(x, whats[i] + "(gas,4)", 7, 9), ofNoPost[i]);
        }
        Check.due("gaps as known ahead", value(x, "gaps(heat,3)", 4, 8), 6);
        Check.due("gaps of 48 hours", value(x, "gaps(heat,48)", 99, 9), 96);
        Check.due("the other kind", value(x, "sum(tilt,10)", 9, 9), 1000);
        Check.due("the edge of a window", value(x, "sum(tilt,7)", 9, 9), 0);
        Check.due("the edge within", value(x, "sum(tilt,8)", 9, 9), 1000);
        x.post(3);
        x.read(3, 1, 5, false);
        x.read(3, 7, -90, false);
        x.read(3, 0, 77, false);
        Check.due("first of a later post", value(x, "first(heat,9)", 8, 9), 77);
        Check.due("last of a later post", value(x, "last(heat,9)", 8, 9), -90);
        Check.due("first of an earlier post", value(x, "first(heat,6)", 7, 9), -4);
        Check.due("last of an earlier post", value(x, "last(heat,7)", 6, 9), 3);
        Check.due("first among posts", value(x, "first(heat,2)", 7, 9), 3);
        Check.due("a hour behind", value(x, "sum(tilt,8)", 1, 9), 0);
    }

    private static void valuesOfSigns() {
        VolcanoWatch x = new VolcanoWatch();
        String[] texts = {"1 + 2 * 3", "2 * 3 + 1", "10 - 4 - 3", "100 / 7 / 2", "2 * 7 / 4", "7 / 4 * 2", "-7 / 2",
            "7 / -2", "- 2 * 3", "2 - -3", "--3", "-(2 + 3)", "1 < 2", "2 < 2", "2 <= 2", "3 <= 2", "2 = 2", "2 = 3",
            "2 <> 3", "2 <> 2", "2 >= 2", "1 >= 2", "3 > 2", "2 > 2", "not 0", "not 7", "not not 7", "not 1 < 2",
            "not 1 + 1 = 3", "1 and 2", "1 and 0", "0 or 3", "0 or 0", "1 or 0 and 0", "(1 or 0) and 0",
            "not 0 and 0", "not (0 and 0)", "0 and 0 or 1", "1 + 1 < 3 and 2 * 2 = 4", "-1 and 1", "(1 < 2) + (3 < 4)",
            "5 - (2 - 1)", "- - - 1", "3 > 2 = 0 or 1"};
        long[] values = {7, 7, 3, 7, 3, 2, -3,
            -3, -6, 5, 3, -5, 1, 0, 1, 0, 1, 0,
            1, 0, 1, 0, 1, 0, 1, 0, 1, 0,
            1, 1, 0, 1, 0, 1, 0,
            0, 1, 1, 1, 1, 2,
            4, -1, 0};
        for (int i = 0; i < texts.length - 1; i++) {
            Check.due(texts[i], value(x, texts[i], 0, 0), values[i]);
        }
        fault("level 1 " + texts[texts.length - 1] + ";", 1, 14);
    }

    private static void valuesThatAreNone() {
        VolcanoWatch x = new VolcanoWatch();
        x.post(0);
        x.read(0, 0, -1, false);
        Check.due("-1 is a value", value(x, "last(tremor,1)", 0, 0), -1);
        Check.due("-1 + 1", value(x, "max(tremor,1) + 1", 0, 0), 0);
        Check.due("by 0", value(x, "1 / 0", 0, 0), NO_VALUE);
        Check.due("by 0 within", value(x, "1 or 1 / (2 - 2)", 0, 0), NO_VALUE);
        Check.due("by 0 behind and", value(x, "0 and 1 / 0", 0, 0), NO_VALUE);
        Check.due("none within", value(x, "1 or last(gas,1)", 0, 0), NO_VALUE);
        Check.due("none times 0", value(x, "0 * min(gas,3)", 0, 0), NO_VALUE);
        Check.due("not none", value(x, "not first(gas,3)", 0, 0), NO_VALUE);
        Check.due("10 to the 12", value(x, "10000 * 10000 * 10000", 0, 0), 1000000000000L);
        Check.due("1 more", value(x, "10000 * 10000 * 10000 + 1", 0, 0), NO_VALUE);
        Check.due("1 more, then less", value(x, "10000 * 10000 * 10000 + 1 - 5", 0, 0), NO_VALUE);
        Check.due("below 0", value(x, "-10000 * 10000 * 10000", 0, 0), -1000000000000L);
        Check.due("below 0, 1 more", value(x, "-10000 * 10000 * 10000 - 1", 0, 0), NO_VALUE);
        Check.due("compared", value(x, "10000 * 10000 * 10001 > 0", 0, 0), NO_VALUE);
        String big = "(10000 * 10000 * 10000)";
        Check.due("beyond a long", value(x, big + " * " + big, 0, 0), NO_VALUE);
        // 2 to the 32 by itself wraps round to 0
        Check.due("wrapping round", value(x, "(65536*65536)*(65536*65536)", 0, 0), NO_VALUE);
        Check.due("times 0", value(x, "0 * " + big, 0, 0), 0);
        Check.due("times -1", value(x, "-1 * " + big, 0, 0), -1000000000000L);
        Check.due("by itself", value(x, big + " / " + big, 0, 0), 1);
        Check.due("raw of none", x.raw(1, 1), 1);
        value(x, "1 / 0", 0, 0);
        Check.due("raw of / by 0", x.raw(1, 1), 0);
    }

    private static void promise11Level() {
        VolcanoWatch x = new VolcanoWatch();
        x.post(0);
        x.hours(10);
        x.read(0, 10, 3, false);
        x.hours(2);
        x.read(0, 8, 4, false);
        Check.rules(x, "keep 3; level 1 last(tremor,1) = 3; level 3 last(tremor,1) = 4;");
        Check.due("level(9)", x.level(9), 0);
        Check.due("level(10)", x.level(10), 1);
        Check.due("level(13)", x.level(13), 1);
        Check.due("level(14)", x.level(14), 0);
        Check.due("raw of 8, known later", x.raw(8, 12), 3);
        Check.due("level(8): not known in it", x.level(8), 0);
        Check.due("level(12)", x.level(12), 1);
        Check.due("level(-1)", x.level(-1), -1);
        Check.due("level(100)", x.level(100), -1);
        Check.due("level(99)", x.level(99), 0);
        x.read(0, 12, 4, false);
        Check.due("level(12) behind a reading", x.level(12), 3);
        Check.due("level(11) stays", x.level(11), 1);
        Check.due("level(15)", x.level(15), 3);
        Check.rules(x, "level 2 gaps(tremor,1) = 2;");
        Check.due("without keep", x.level(50), 0);
        x.post(0);
        Check.due("with one more post", x.level(50), 2);
        Check.due("with one more post, ahead", x.level(10), 0);
        Check.due("with one more post, in 0", x.level(0), 2);
        Check.rules(x, "level 1 gaps(tremor,1) = 3;");
        Check.due("not yet in 0", x.level(0), 0);
        x.post(0);
        Check.due("with a third post, in 0", x.level(0), 1);
        Check.rules(x, "keep 24; level 2 count(tremor,1) = 1 and last(tremor,1) = 3;");
        Check.due("level(34)", x.level(34), 2);
        Check.due("level(35)", x.level(35), 0);
        Check.due("level(0)", x.level(0), 0);
    }
}
