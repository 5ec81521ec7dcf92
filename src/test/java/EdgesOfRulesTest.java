import java.util.List;
import java.util.Set;

/** The boundaries of part 2 of the document: tokens, where each may stand, FAULTS and VALUES. */
public final class EdgesOfRulesTest {
    private static final long NO_VALUE = Long.MIN_VALUE;
    private static final List<String> WHATS = List.of("last", "first", "sum", "max", "min", "count", "gaps");
    private static final List<String> KINDS = List.of("tremor", "tilt", "gas", "heat");
    private static final List<String> COMPARING = List.of("<", "<=", "=", "<>", ">=", ">");
    private static final List<String> RECKONING = List.of("+", "-", "*", "/");

    public static void main(String[] args) {
        everyByteAheadOfALine();
        everyByteAheadOfAnOperand();
        everyByteBehindAnOperand();
        wordsAreWhole();
        signsOfTwo();
        whereTokensMayStand();
        numbersOfKeepAndLevel();
        numbersOfWindows();
        numbersInExpressions();
        ninthOpen();
        knotsOfEachSort();
        whatIsNoKnot();
        linesOfLevel();
        keepTwice();
        theFirstFault();
        ofOnePlaceTheLeast();
        theLengthIfMoreMustCome();
        textsOfAnyLength();
        faultsChangeNothing();
        faultsLeaveNothingBehind();
        whatBindsMore();
        windowsAtTheirEdges();
        firstAndLast();
        greatValues();
        divisions();
        noneWithin();
        rawAndLevel();
        Check.end("EdgesOfRulesTest");
    }

    private static void fault(String text, int kind, int place) {
        VolcanoWatch x = new VolcanoWatch();
        int lines = Check.rules(x, text);
        Check.due("rules of '" + text + "' refused", lines == -1, kind != 0);
        Check.due("fault of '" + text + "'", x.fault(0), kind);
        Check.due("its place in '" + text + "'", x.fault(1), place);
    }

    private static void good(String text) {
        fault(text, 0, -1);
    }

    // ---- tokens

    private static void everyByteAheadOfALine() {
        for (char sign = 0; sign <= 255; sign++) {
            if (sign == 10 || sign == 32) {
                good(sign + "keep 1;" + sign);
            } else {
                fault(sign + "keep 1;", 1, 0);
                fault("keep 1;" + sign, 1, 7);
            }
        }
    }

    private static void everyByteAheadOfAnOperand() {
        for (char sign = 0; sign <= 255; sign++) {
            String text = "level 1 " + sign + "1;";
            boolean digit = sign >= '0' && sign <= '9';
            if (digit || sign == 10 || sign == 32 || sign == '-') {
                good(text);
            } else {
                fault(text, 1, sign == '(' ? 10 : 8);
            }
        }
    }

    private static void everyByteBehindAnOperand() {
        for (char sign = 0; sign <= 255; sign++) {
            String text = "level 1 1" + sign + "1;";
            boolean digit = sign >= '0' && sign <= '9';
            if (digit || "+-*/<=>".indexOf(sign) >= 0) {
                good(text);
            } else {
                fault(text, 1, sign == 10 || sign == 32 || sign == ';' ? 10 : 9);
            }
        }
    }

    private static void wordsAreWhole() {
        for (String cut : List.of("kee", "keepp", "akeep", "eep", "Keep", "keeP")) {
            fault(cut + " 1;", 1, 0);
        }
        for (String cut : List.of("leve", "levell", "alevel", "evel")) {
            fault(cut + " 1 1;", 1, 0);
        }
        for (String what : WHATS) {
            good("level 1 " + what + "(gas,1);");
            fault("level 1 " + what + "s(gas,1);", 1, 8);
            fault("level 1 " + what.substring(1) + "(gas,1);", 1, 8);
            fault("level 1 " + what.substring(0, what.length() - 1) + "(gas,1);", 1, 8);
        }
        for (String kind : KINDS) {
            good("level 1 sum(" + kind + ",1);");
            fault("level 1 sum(" + kind + "s,1);", 1, 12);
            fault("level 1 sum(" + kind.substring(1) + ",1);", 1, 12);
            fault("level 1 sum(" + kind.substring(0, kind.length() - 1) + ",1);", 1, 12);
        }
        fault("level 1 nott 1;", 1, 8);
        fault("level 1 no 1;", 1, 8);
        fault("level 1 1 an 1;", 1, 10);
        fault("level 1 1 andd 1;", 1, 10);
        fault("level 1 1 orr 1;", 1, 10);
        fault("level 1 1 o 1;", 1, 10);
        fault("level 1 notnot 1;", 1, 8);
        fault("levelnot 1;", 1, 0);
        good("level 1not1and1or-1;keep3;");
        good("level\n1\nsum\n(\ngas\n,\n1\n)\n;\n");
        fault("level 1 1 0;", 1, 10);
        fault("ke ep 1;", 1, 0);
    }

    private static void signsOfTwo() {
        for (String sign : COMPARING) {
            good("level 1 1" + sign + "2;");
            good("level 1 1 " + sign + " 2;");
        }
        fault("level 1 1< =2;", 1, 11);
        fault("level 1 1<\n=2;", 1, 11);
        fault("level 1 1< >2;", 1, 11);
        fault("level 1 1> =2;", 1, 11);
        fault("level 1 1><2;", 1, 10);
        fault("level 1 1>>2;", 1, 10);
        fault("level 1 1<<2;", 1, 10);
        fault("level 1 1==2;", 1, 10);
        fault("level 1 1=<2;", 1, 10);
        fault("level 1 1=>2;", 1, 10);
        fault("level 1 1<=>2;", 1, 11);
        fault("level 1 1<==2;", 1, 11);
        fault("level 1 1<>=2;", 1, 11);
        fault("level 1 1<>>2;", 1, 11);
        fault("level 1 1>==2;", 1, 11);
        good("level 1 1<-2;");
        good("level 1 1<=-2;");
        good("level 1 1--2;");
    }

    // ---- where each token may stand

    private static final List<String> TOKENS = List.of("", "keep", "level", "and", "or", "not", "7", ";", "(", ")", ",",
        "+", "-", "*", "/", "<", "<=", "=", "<>", ">=", ">", "last", "first", "sum", "max", "min", "count", "gaps",
        "tremor", "tilt", "gas", "heat", "word", "$", "X", ".");

    private static void mayStand(String ahead, String... tokens) {
        Set<String> allowed = new java.util.HashSet<>();
        for (String token : tokens) {
            switch (token) {
                case "WHAT": allowed.addAll(WHATS); break;
                case "KIND": allowed.addAll(KINDS); break;
                case "COMPARING": allowed.addAll(COMPARING); break;
                case "RECKONING": allowed.addAll(RECKONING); break;
                default: allowed.add(token);
            }
        }
        int place = ahead.length() + 1;
        for (String token : TOKENS) {
            VolcanoWatch x = new VolcanoWatch();
            Check.rules(x, ahead + " " + token);
            boolean here = x.fault(0) == 1 && x.fault(1) == place;
            Check.due("'" + token + "' can't stand behind '" + ahead + "'", here, !allowed.contains(token));
        }
    }

    private static void whereTokensMayStand() {
        mayStand("", "", "keep", "level");
        mayStand("keep 1;", "", "keep", "level");
        mayStand("level 1 1;", "", "keep", "level");
        mayStand("keep", "7");
        mayStand("keep 3", ";");
        mayStand("level", "7");
        for (String ahead : List.of("level 1", "level 1 not", "level 1 (", "level 1 1 and", "level 1 1 or",
            "level 1 not not", "level 1 1 < 2 and", "level 1 1 < (")) {
            mayStand(ahead, "not", "7", "(", "-", "WHAT");
        }
        for (String ahead : List.of("level 1 -", "level 1 1 +", "level 1 1 -", "level 1 1 *", "level 1 1 /",
            "level 1 1 <", "level 1 1 <=", "level 1 1 =", "level 1 1 <>", "level 1 1 >=", "level 1 1 >",
            "level 1 not -", "level 1 1 < 2 +", "level 1 - -")) {
            mayStand(ahead, "7", "(", "-", "WHAT");
        }
        for (String ahead : List.of("level 1 1", "level 1 (1)", "level 1 sum(gas,1)", "level 1 -1", "level 1 not 1",
            "level 1 1 + 2", "level 1 1 < 2 and 3", "level 1 1 < 2 or 3", "level 1 (1 < 2)", "level 1 1 * 2",
            "keep 1; level 2 1")) {
            mayStand(ahead, ";", "and", "or", "RECKONING", "COMPARING");
        }
        for (String ahead : List.of("level 1 1 < 2", "level 1 1 < 2 + 3", "level 1 not 1 < 2", "level 1 0 or 1 = 2",
            "level 1 1 < (2)", "level 1 1 < (2 < 3)", "level 1 1 and 2 >= -3", "level 1 1 <> sum(gas,1)")) {
            mayStand(ahead, ";", "and", "or", "RECKONING");
        }
        for (String ahead : List.of("level 1 (1", "level 1 ((1)", "level 1 1 < (2", "level 1 (1 < 2 and 3")) {
            mayStand(ahead, ")", "and", "or", "RECKONING", "COMPARING");
        }
        mayStand("level 1 (1 < 2", ")", "and", "or", "RECKONING");
        mayStand("level 1 1 < (2 < 3", ")", "and", "or", "RECKONING");
        for (String what : WHATS) {
            mayStand("level 1 " + what, "(");
        }
        mayStand("level 1 sum (", "KIND");
        for (String kind : KINDS) {
            mayStand("level 1 sum(" + kind, ",");
        }
        mayStand("level 1 sum(gas,", "7");
        mayStand("level 1 sum(gas,1", ")");
        mayStand("level 1 (sum(gas,1", ")");
    }

    // ---- too much

    private static void numbersOfKeepAndLevel() {
        for (int keep : new int[] {0, 1, 23, 24}) {
            VolcanoWatch x = new VolcanoWatch();
            Check.due("keep " + keep, Check.rules(x, "keep " + keep + ";"), 1);
            Check.due("count(4) of " + keep, x.count(4), keep);
        }
        for (int level = 1; level <= 4; level++) {
            VolcanoWatch x = new VolcanoWatch();
            Check.due("level " + level, Check.rules(x, "level " + level + " 1;"), 1);
            Check.due("raw of level " + level, x.raw(0, 0), level);
        }
        for (String keep : List.of("25", "26", "100", "256", "280", "65536", "99999", "100000", "2147483647",
            "2147483648", "4294967296", "4294967320", "18446744073709551616", "0000000000000000000025")) {
            fault("keep " + keep + ";", 2, 5);
        }
        for (String level : List.of("0", "00", "5", "6", "257", "65537", "4294967297", "18446744073709551617")) {
            fault("level " + level + " 1;", 2, 6);
        }
        good("keep 000000000000000000000000000024;");
        good("level 0000000000000000000000000004 1;");
        fault("keep -1;", 1, 5);
        fault("level -1 1;", 1, 6);
        fault("level (1) 1;", 1, 6);
    }

    private static void numbersOfWindows() {
        for (String what : WHATS) {
            good("level 1 " + what + "(heat,1);");
            good("level 1 " + what + "(heat,48);");
            fault("level 1 " + what + "(heat,0);", 2, 14 + what.length());
            fault("level 1 " + what + "(heat,49);", 2, 14 + what.length());
        }
        for (String n : List.of("00", "50", "99", "256", "257", "65537", "99999", "100000", "4294967297",
            "18446744073709551617")) {
            fault("level 1 sum(gas," + n + ");", 2, 16);
        }
        good("level 1 sum(gas,0000000048);");
    }

    private static void numbersInExpressions() {
        good("level 1 0;");
        good("level 1 99999;");
        good("level 1 0000000000000000000000099999;");
        for (String n : List.of("100000", "100001", "999999", "1000000", "2147483647", "2147483648", "4294967295",
            "4294967296", "4294967297", "9223372036854775808", "18446744073709551616", "00000100000")) {
            fault("level 1 " + n + ";", 2, 8);
            fault("level 1 -" + n + ";", 2, 9);
            fault("level 1 (1 < " + n + ");", 2, 13);
        }
        VolcanoWatch x = new VolcanoWatch();
        Check.due("99999", value(x, "99999", 0, 0), 99999);
        Check.due("0", value(x, "0", 0, 0), 0);
        Check.due("-99999", value(x, "-99999", 0, 0), -99999);
    }

    private static void ninthOpen() {
        good("level 1 " + "(".repeat(8) + "1" + ")".repeat(8) + ";");
        fault("level 1 " + "(".repeat(9) + "1" + ")".repeat(9) + ";", 2, 16);
        good("level 1 " + "(".repeat(7) + "sum(gas,1)" + ")".repeat(7) + ";");
        fault("level 1 " + "(".repeat(8) + "sum(gas,1)" + ")".repeat(8) + ";", 2, 19);
        fault("level 1 " + "(".repeat(8) + "1+(1", 2, 18);
        fault("level 1 " + "(".repeat(8) + "not (1", 2, 20);
        fault("level 1 " + "(".repeat(8) + "-(1", 2, 17);
        good("level 1 " + "(".repeat(8) + "1)+(1)" + ")".repeat(7) + ";");
        fault("level 1 " + "(".repeat(8) + "1)+((1", 2, 20);
        good("level 1 " + "(".repeat(7) + "sum(gas,1)+(1)+sum(gas,2)" + ")".repeat(7) + ";");
        good("level 1 " + "(1)+".repeat(9) + "1;");
        good("level 1 ((((((((1))))))));level 1 ((((((((1))))))));");
        fault("level 1 ((((((((1))))))));level 1 (((((((((1", 2, 42);
        fault("level 1 1 < ((((((((1 < (2", 2, 24);
        fault("level 1 (((((((( sum", 1, 20);
        fault("level 1 (((((((( sum )", 1, 21);
    }

    /** A text with so many knots already, from level on, that ends behind an operand. */
    private static String knots(int n) {
        return n % 2 == 1 ? "level 1 1" + "+1".repeat(n / 2) : "level 1 -1" + "+1".repeat(n / 2 - 1);
    }

    private static void knotsOfEachSort() {
        for (String sign : List.of("+", "-", "*", "/", "<", "<=", "=", "<>", ">=", ">", " and ", " or ")) {
            int blank = sign.startsWith(" ") ? 1 : 0;
            good(knots(62) + sign + "1;");
            fault(knots(63) + sign + "1;", 2, knots(63).length() + sign.length());
            fault(knots(64) + sign + "1;", 2, knots(64).length() + blank);
        }
        good(knots(61) + "+-1;");
        fault(knots(62) + "+-1;", 2, knots(62).length() + 2);
        fault(knots(63) + "+-1;", 2, knots(63).length() + 1);
        good(knots(61) + " or not 1;");
        fault(knots(62) + " or not 1;", 2, knots(62).length() + 8);
        fault(knots(63) + " or not 1;", 2, knots(63).length() + 4);
        for (String what : WHATS) {
            good(knots(62) + "+" + what + "(gas,1);");
            fault(knots(63) + "+" + what + "(gas,1);", 2, knots(63).length() + 1);
            fault(knots(63) + "+" + what, 2, knots(63).length() + 1);
        }
        good(knots(63) + ";level 1 1;");
        fault(knots(64) + ";level 1 1;", 2, knots(64).length() + 9);
        good(knots(64) + ";");
        fault(knots(65) + ";", 2, knots(65).length() - 1);
        good("level 1 " + "-".repeat(63) + "1;");
        fault("level 1 " + "-".repeat(64) + "1;", 2, 72);
        fault("level 1 " + "-".repeat(65) + "1;", 2, 72);
        good("level 1 " + "not ".repeat(63) + "1;");
        fault("level 1 " + "not ".repeat(64) + "1;", 2, 264);
        fault("level 1 " + "not ".repeat(65) + "1;", 2, 264);
        for (int n = 1; n <= 64; n++) {
            VolcanoWatch x = new VolcanoWatch();
            Check.rules(x, knots(n) + ";");
            Check.due("count(5) of " + n, x.count(5), n);
        }
    }

    private static void whatIsNoKnot() {
        VolcanoWatch x = new VolcanoWatch();
        Check.rules(x, "keep 9; level 1 (((((((sum(gas,9)))))))); level 2 (1);");
        Check.due("numbers of keep, level and windows, brackets and commas are none", x.count(5), 2);
        good(knots(64) + ";keep 9;");
        good("keep 9;level 1 ((" + knots(64).substring(8) + "));");
        good(knots(63) + ";level 1 (((sum(gas,48))));");
    }

    private static void linesOfLevel() {
        good("level 1 1;".repeat(12));
        fault("level 1 1;".repeat(13), 2, 120);
        good("level 1 1;".repeat(12) + "keep 1;");
        good("keep 1;" + "level 1 1;".repeat(12));
        fault("keep 1;" + "level 1 1;".repeat(12) + "  level", 2, 129);
        fault("level 1 1;".repeat(6) + "keep 1;" + "level 1 1;".repeat(7), 2, 127);
        fault("level 1 1;".repeat(12) + "level $", 2, 120);
        fault("level 1 1;".repeat(12) + "levels", 1, 120);
        VolcanoWatch x = new VolcanoWatch();
        Check.due("12 of level and a keep", Check.rules(x, "level 1 1;".repeat(12) + "keep 1;"), 13);
        Check.due("lines of level", x.count(3), 12);
    }

    private static void keepTwice() {
        fault("keep 0;keep 0;", 3, 7);
        fault("keep 1;level 1 1;\nkeep 1;", 3, 18);
        fault("keep 1;keep", 3, 7);
        fault("keep 1;keep 25;", 3, 7);
        fault("keep 1;keep $", 3, 7);
        fault("keep 1;keeps 1;", 1, 7);
        fault("keep 1 keep 1;", 1, 7);
        VolcanoWatch x = new VolcanoWatch();
        Check.due("a keep", Check.rules(x, "keep 3;"), 1);
        Check.due("a keep in other rules", Check.rules(x, "keep 4;"), 1);
        Check.due("that one", x.count(4), 4);
        Check.due("twice", Check.rules(x, "keep 5;keep 6;"), -1);
        Check.due("a keep behind a fault", Check.rules(x, "keep 7;"), 1);
    }

    private static void theFirstFault() {
        fault("keep 25; $", 2, 5);
        fault("$ keep 25;", 1, 0);
        fault("keep 1; keep 2; $", 3, 8);
        fault("keep 25; keep 1;", 2, 5);
        fault("level 0 $;", 2, 6);
        fault("level 1 100000 $;", 2, 8);
        fault("level 1 $ 100000;", 1, 8);
        fault("level 1 sum(gas,49 $;", 2, 16);
        fault("level 1 1; keep 1; keep 1; level 5 1;", 3, 19);
        fault(knots(65) + "$;", 2, knots(65).length() - 1);
    }

    private static void ofOnePlaceTheLeast() {
        fault("keep 1; level 1 keep", 1, 16);
        fault("keep 1; level keep", 1, 14);
        fault("level 1 1;".repeat(12) + "keep 1 level", 1, 127);
        fault("level 1 ((((((((1(", 1, 17);
        fault("level 1 sum(gas,((((((((((", 1, 16);
        fault("level 1 1 100000;", 1, 10);
        fault("level 1 sum 100000;", 1, 12);
        fault("keep 3 25;", 1, 7);
        fault(knots(64) + " 1;", 1, knots(64).length() + 1);
        fault(knots(64) + " not 1;", 1, knots(64).length() + 1);
        fault(knots(64) + " sum", 1, knots(64).length() + 1);
        fault(knots(64) + ";level 1 +", 1, knots(64).length() + 9);
        fault(knots(62) + "<1<", 1, knots(62).length() + 2);
        fault(knots(63) + "+not 1;", 1, knots(63).length() + 1);
        fault(knots(64) + ";level 1 100000;", 2, knots(64).length() + 9);
    }

    private static void theLengthIfMoreMustCome() {
        String whole = "keep 7;level 2 not(1+sum(gas,3))*-2<=3;";
        for (int n = 0; n <= whole.length(); n++) {
            VolcanoWatch x = new VolcanoWatch();
            Check.feed(x, whole);
            boolean complete = n == 0 || n == 7 || n == whole.length();
            boolean wordCut = n >= 1 && n <= 3 || n >= 8 && n <= 11 || n >= 16 && n <= 17 || n >= 22 && n <= 23
                || n >= 26 && n <= 27;
            int word = n < 4 ? 0 : n < 12 ? 7 : n < 18 ? 15 : n < 24 ? 21 : 25;
            x.rules(n);
            Check.due("fault of the first " + n, x.fault(0), complete ? 0 : 1);
            Check.due("its place of the first " + n, x.fault(1), complete ? -1 : wordCut ? word : n);
        }
        fault("keep 7  ", 1, 8);
        fault("keep 7\n\n", 1, 8);
        fault("level 1 1 ", 1, 10);
    }

    private static void textsOfAnyLength() {
        VolcanoWatch x = new VolcanoWatch();
        Check.due("500 bytes", Check.rules(x, "level 3 1" + " ".repeat(490) + ";"), 1);
        Check.due("of them the last counts", x.raw(0, 0), 3);
        Check.due("500 blanks", Check.rules(x, " ".repeat(500)), 0);
        Check.due("they say nothing", x.raw(0, 0), 0);
        Check.due("a fault at the last of 500", Check.rules(x, " ".repeat(499) + "$"), -1);
        Check.due("its place", x.fault(1), 499);
        Check.due("a number of 491 digits", Check.rules(x, "level 2 " + "0".repeat(490) + "1;"), 1);
        Check.due("it is 1", x.tries(0, 0, 0), 1);
        Check.due("a number of 492 digits", Check.rules(x, "level 2 " + "9".repeat(492)), -1);
        Check.due("too much", x.fault(0), 2);
        Check.due("a word of 500 letters", Check.rules(x, "k".repeat(500)), -1);
        Check.due("no token", x.fault(0), 1);
        Check.due("500 of ;", Check.rules(x, ";".repeat(500)), -1);
        Check.due("500 open", Check.rules(x, "level 1 " + "(".repeat(492)), -1);
        Check.due("the ninth", x.fault(1), 16);
        Check.feed(x, "keep 1;level 1 1;$$$");
        Check.due("what is behind the first n isn't looked at", x.rules(17), 2);
        Check.due("and is gone", x.rules(1), -2);
    }

    /** Promise 3: NONE with a FAULT; the RULES that were told ahead stay. */
    private static void faultsChangeNothing() {
        Scene some = Scene.of("ground 3 5 0", "ground 4 9 7", "post 0", "post 2", "read 0 0 3 0", "wind 5 0 3",
            "world 5 0 9 2 2", "town 4 50 2 0", "shelter 9", "road 0 1 1 3 1 2", "candidate 9", "work 8 1 1");
        Scene ruled = some.and("rules keep 5; level 2 last(tremor,2) = 3; level 1 1;");
        for (String text : List.of("keep 25;", "keep 1;keep 1;", "level 4 1;level 5 1;", "level 4 1;level 3 1", "$",
            "level 1 1;".repeat(13), "keep 1;level 4 " + "(".repeat(9))) {
            some.and("text " + text).findsFault("rules " + text.length());
            ruled.and("text " + text).findsFault("rules " + text.length());
        }
    }

    /** What a faulty text left open has no part in the next one. */
    private static void faultsLeaveNothingBehind() {
        for (String faulty : List.of("level 1 7 - $", "level 1 not $", "level 1 - $", "level 1 7 - (2 * (3 - $",
            "level 1 ((((((((7 - $", "level 1 1 < 2 $", "level 1 1 < (2 < 3 $", "level 1 0 and $", "level 1 sum(gas $",
            "level 1 - -", "keep 1; keep", "keep 25", "level 1 1; level 1 7 /", knots(65), "level 1 1;".repeat(13))) {
            VolcanoWatch x = new VolcanoWatch();
            Check.due("rules of '" + faulty + "'", Check.rules(x, faulty), -1);
            Check.due("5 behind it", value(x, "5", 0, 0), 5);
            Check.due("it is all", x.count(5), 1);
            Check.rules(x, faulty);
            Check.due("not 1 < 2 behind it", value(x, "not 1 < 2", 0, 0), 0);
            Check.rules(x, faulty);
            Check.due("8 open behind it", value(x, "((((((((1 < 3)))))))) + 2", 0, 0), 3);
            Check.rules(x, faulty);
            Check.due("12 lines behind it", Check.rules(x, "level 1 1;".repeat(12) + "keep 3;"), 13);
            Check.rules(x, faulty);
            Check.due("a line not ended behind it", Check.rules(x, "level 1 1)"), -1);
            Check.due("its place", x.fault(1), 9);
        }
    }

    // ---- values

    /** A grammar that goes down from or to -: what stands lower in it binds more, and like ones from the left. */
    private static void whatBindsMore() {
        VolcanoWatch x = new VolcanoWatch();
        String[] texts = {"1 < 2 + 3", "2 + 3 < 1", "5 = 2 + 3", "2 + 3 = 5", "5 <> 3 + 2", "3 >= 4 - 1", "9 > 2 * 4",
            "9 <= 2 * 4", "2 * 4 > 7", "1 + 2 * 3 - 4 / 2", "(1 or 0)", "(0 or 2)", "(0 or 2) * 5", "(1 or 0) + 1",
            "(2 and 3) * 7", "(0 and 3) + 7", "0 or (0 or 1) and 3", "not (0 or 2)", "not 0 or 1", "not 0 and 0",
            "not 1 = 0", "not 1 + 1", "1 and 2 = 2", "2 = 2 and 0", "0 = 1 or 1", "1 or 1 = 0", "8 - 4 + 2",
            "8 / 4 * 2", "2 * -3 + 1", "-2 - 3", "- (2 - 3)", "-2 * 3 < -5", "1 < (2 = 3)", "(1 < 2) = 1",
            "0 and 1 or 1", "1 or 1 and 0", "7 - (3 - (2 - 1))", "(((4)))"};
        long[] dues = {1, 0, 1, 1, 0, 1, 1,
            0, 1, 5, 1, 1, 5, 2,
            7, 7, 1, 0, 1, 0,
            1, 0, 1, 0, 1, 1, 6,
            4, -5, -5, 1, 1, 0, 1,
            1, 1, 5, 4};
        for (int i = 0; i < texts.length; i++) {
            Check.due(texts[i], value(x, texts[i], 0, 0), dues[i]);
        }
    }

    private static long value(VolcanoWatch x, String expression, int hour, int k) {
        Check.due("rules of " + expression, Check.rules(x, "level 1 " + expression + ";"), 1);
        return x.tries(0, hour, k);
    }

    private static void windowsAtTheirEdges() {
        VolcanoWatch x = new VolcanoWatch();
        x.post(1);
        for (int hour = 0; hour <= 60; hour++) {
            x.read(0, hour, 1, false);
            x.hours(1);
        }
        long[][] dues = {{0, 1, 1}, {0, 48, 1}, {1, 1, 1}, {1, 2, 2}, {1, 3, 2}, {46, 48, 47}, {47, 48, 48},
            {48, 48, 48}, {48, 47, 47}, {60, 48, 48}, {61, 1, 0}, {61, 2, 1}, {61, 48, 47}, {99, 48, 9}, {99, 39, 0},
            {99, 40, 1}};
        for (long[] due : dues) {
            String of = "(tilt," + due[1] + ")";
            int h = (int) due[0];
            long hours = Math.min(due[1], due[0] + 1);
            Check.due("count" + of + " for " + h, value(x, "count" + of, h, 99), due[2]);
            Check.due("sum" + of + " for " + h, value(x, "sum" + of, h, 99), due[2]);
            Check.due("gaps" + of + " for " + h, value(x, "gaps" + of, h, 99), hours - due[2]);
            Check.due("max" + of + " for " + h, value(x, "max" + of, h, 99), due[2] > 0 ? 1 : NO_VALUE);
        }
        Check.due("as known in the hour itself", value(x, "count(tilt,5)", 10, 10), 5);
        Check.due("as known an hour ahead", value(x, "count(tilt,5)", 10, 9), 4);
        Check.due("gaps as known an hour ahead", value(x, "gaps(tilt,5)", 10, 9), 1);
        Check.due("as known in 0", value(x, "gaps(tilt,5)", 10, 0), 5);
    }

    private static void firstAndLast() {
        VolcanoWatch x = new VolcanoWatch();
        x.post(3);
        x.post(3);
        x.hours(9);
        x.read(0, 4, -5, false);
        x.read(1, 4, -6, false);
        x.read(0, 6, 1, false);
        x.read(1, 6, 2, false);
        Check.due("first: the greatest of its hour", value(x, "first(heat,5)", 8, 9), -5);
        Check.due("last: the greatest of its hour", value(x, "last(heat,5)", 8, 9), 2);
        Check.due("first of 5 .. 8", value(x, "first(heat,4)", 8, 9), 2);
        Check.due("last of 1 .. 5", value(x, "last(heat,5)", 5, 9), -5);
        Check.due("last of 7 .. 8", value(x, "last(heat,2)", 8, 9), NO_VALUE);
        Check.due("first of 7 .. 8", value(x, "first(heat,2)", 8, 9), NO_VALUE);
        Check.due("max of 7 .. 8", value(x, "max(heat,2)", 8, 9), NO_VALUE);
        Check.due("min of 7 .. 8", value(x, "min(heat,2)", 8, 9), NO_VALUE);
        Check.due("sum of 7 .. 8", value(x, "sum(heat,2)", 8, 9), 0);
        Check.due("count of 7 .. 8", value(x, "count(heat,2)", 8, 9), 0);
        Check.due("gaps of 7 .. 8", value(x, "gaps(heat,2)", 8, 9), 4);
        x.read(1, 6, 0, true);
        Check.due("last without one that is gone", value(x, "last(heat,5)", 8, 9), 1);
        x.read(0, 6, 0, true);
        Check.due("last without both", value(x, "last(heat,5)", 8, 9), -5);
        x.read(0, 0, -9999, false);
        x.read(1, 0, -9999, false);
        Check.due("the least reading is one", value(x, "max(heat,1)", 0, 9), -9999);
        Check.due("the least readings", value(x, "sum(heat,1)", 0, 9), -19998);
        x.read(0, 1, 9999, false);
        Check.due("the greatest reading", value(x, "max(heat,2)", 1, 9), 9999);
        Check.due("min of both", value(x, "min(heat,2)", 1, 9), -9999);
    }

    private static void greatValues() {
        VolcanoWatch x = new VolcanoWatch();
        long million2 = 1000000000000L;
        String most = "10000*10000*10000";
        Check.due("most", value(x, most, 0, 0), million2);
        Check.due("most + 0", value(x, most + "+0", 0, 0), million2);
        Check.due("most - 1", value(x, most + "-1", 0, 0), million2 - 1);
        Check.due("most + 1", value(x, most + "+1", 0, 0), NO_VALUE);
        Check.due("most + 1 - 1", value(x, most + "+1-1", 0, 0), NO_VALUE);
        Check.due("most * 1", value(x, most + "*1", 0, 0), million2);
        Check.due("most * 2", value(x, most + "*2", 0, 0), NO_VALUE);
        Check.due("most * -1", value(x, most + "*-1", 0, 0), -million2);
        Check.due("least", value(x, "-(" + most + ")", 0, 0), -million2);
        Check.due("least + 1", value(x, "-(" + most + ")+1", 0, 0), 1 - million2);
        Check.due("least - 1", value(x, "-(" + most + ")-1", 0, 0), NO_VALUE);
        Check.due("least * -1", value(x, "-(" + most + ")*-1", 0, 0), million2);
        Check.due("least * 2", value(x, "-(" + most + ")*2", 0, 0), NO_VALUE);
        Check.due("0 - most", value(x, "0-" + most, 0, 0), -million2);
        Check.due("most - most", value(x, most + "-" + most, 0, 0), 0);
        Check.due("most + most", value(x, most + "+" + most, 0, 0), NO_VALUE);
        Check.due("most = most", value(x, most + "=" + most, 0, 0), 1);
        Check.due("not most", value(x, "not " + most, 0, 0), 0);
        Check.due("beyond, compared", value(x, most + "+1 > 0", 0, 0), NO_VALUE);
        Check.due("beyond, times 0", value(x, "0*(" + most + "+1)", 0, 0), NO_VALUE);
        Check.due("beyond, or 1", value(x, "1 or " + most + "+1", 0, 0), NO_VALUE);
        Check.due("99999 by 99999", value(x, "99999*99999", 0, 0), 9999800001L);
        Check.due("beyond by 90001", value(x, "99999*99999*101", 0, 0), NO_VALUE);
        Check.due("below by 9", value(x, "99999*99999*100", 0, 0), 999980000100L);
        Check.due("2 to the 64", value(x, "65536*65536*65536*65536", 0, 0), NO_VALUE);
        Check.due("all of 2 to the 32, twice", value(x, "(65536*65536)*(65536*65536)", 0, 0), NO_VALUE);
        for (int times = 1; times <= 12; times++) {
            String product = "(" + times + "*65536*65536)*(65536*65536)";
            Check.due(product, value(x, product, 0, 0), NO_VALUE);
        }
        Check.due("2 to the 63", value(x, "(65536*65536)*(65536*32768)", 0, 0), NO_VALUE);
        Check.due("most by most", value(x, "(" + most + ")*(" + most + ")", 0, 0), NO_VALUE);
        Check.due("least by most", value(x, "-(" + most + ")*(" + most + ")", 0, 0), NO_VALUE);
        Check.due("raw of beyond", x.raw(0, 0), 0);
        value(x, most, 0, 0);
        Check.due("raw of most", x.raw(0, 0), 1);
    }

    private static void divisions() {
        VolcanoWatch x = new VolcanoWatch();
        String[] texts = {"7/2", "-7/2", "7/-2", "-7/-2", "1/2", "-1/2", "0/5", "0/-5", "5/5", "5/6", "99999/1",
            "-(10000*10000*10000)/-1", "1/0", "0/0", "-1/0", "1/(1-1)", "1/-0", "0*(1/0)", "1 or 1/0", "0 and 1/0",
            "1/0 = 1/0", "not 1/0", "1/(1 > 2)", "1/(1 < 2)"};
        long[] dues = {3, -3, -3, 3, 0, 0, 0, 0, 1, 0, 99999,
            1000000000000L, NO_VALUE, NO_VALUE, NO_VALUE, NO_VALUE, NO_VALUE, NO_VALUE, NO_VALUE, NO_VALUE,
            NO_VALUE, NO_VALUE, NO_VALUE, 1};
        for (int i = 0; i < texts.length; i++) {
            Check.due(texts[i], value(x, texts[i], 0, 0), dues[i]);
        }
    }

    private static void noneWithin() {
        for (String what : List.of("last", "first", "max", "min")) {
            VolcanoWatch x = new VolcanoWatch();
            x.post(0);
            x.read(0, 0, -1, false);
            String none = what + "(gas,1)";
            Check.due(what + " is NONE", value(x, none, 0, 0), NO_VALUE);
            Check.due("not " + what, value(x, "not " + none, 0, 0), NO_VALUE);
            Check.due("- " + what, value(x, "-" + none, 0, 0), NO_VALUE);
            for (String sign : List.of("+", "-", "*", "/", "<", "<=", "=", "<>", ">=", ">", " and ", " or ")) {
                Check.due(what + sign + "1", value(x, none + sign + "1", 0, 0), NO_VALUE);
                Check.due("0" + sign + what, value(x, "0" + sign + none, 0, 0), NO_VALUE);
            }
            Check.due(what + " of a reading of -1", value(x, what + "(tremor,1)", 0, 0), -1);
            Check.due(what + " of a reading of -1 is one", value(x, what + "(tremor,1) = -1", 0, 0), 1);
            Check.due("raw by it", x.raw(0, 0), 1);
            Check.due("an hour later there is none", x.raw(1, 1), 0);
        }
        VolcanoWatch x = new VolcanoWatch();
        for (String what : List.of("sum", "count", "gaps")) {
            Check.due(what + " of no post is 0", value(x, what + "(gas,1)", 0, 0), 0);
        }
        Check.rules(x, "level 4 1/0; level 2 1; level 3 last(gas,1);");
        Check.due("another line counts still", x.raw(0, 0), 2);
    }

    private static void rawAndLevel() {
        VolcanoWatch x = new VolcanoWatch();
        x.post(0);
        x.hours(30);
        x.read(0, 30, 1, false);
        for (int keep : new int[] {0, 1, 24}) {
            Check.rules(x, "keep " + keep + "; level 3 last(tremor,1);");
            Check.due("level ahead, keep " + keep, x.level(29), 0);
            Check.due("level in it, keep " + keep, x.level(30), 3);
            Check.due("level of the last, keep " + keep, x.level(30 + keep), 3);
            Check.due("level behind, keep " + keep, x.level(31 + keep), 0);
        }
        Check.rules(x, "level 3 last(tremor,1);");
        Check.due("without keep", x.level(31), 0);
        Check.rules(x, "keep 24; level 3 gaps(tremor,48) = 1; level 1 1;");
        Check.due("gaps are 1 in 0 alone", x.raw(1, 1), 1);
        Check.due("level(0)", x.level(0), 3);
        Check.due("level(24)", x.level(24), 3);
        Check.due("level(25)", x.level(25), 1);
        Check.due("level(99)", x.level(99), 1);
        Check.rules(x, "level 1 -1; level 2 0; level 3 1/0;");
        Check.due("below 0 isn't 0", x.raw(0, 0), 1);
        Check.rules(x, "keep 5;");
        Check.due("no line of level", x.raw(0, 0), 0);
        Check.due("no line of level", x.level(99), 0);
    }
}
