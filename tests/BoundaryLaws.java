/** A test for each sentence that names a boundary case: promises 8 to 15, the TAPE, ROWS and LAWS. */
final class BoundaryLaws {
    private static final int NONE = -1;
    private static final int LOWEST = Integer.MIN_VALUE;
    private static final int HIGHEST = Integer.MAX_VALUE;

    static void run() {
        feed();
        end();
        row();
        torn();
        law();
        tokens();
        clauses();
        numbersAndParts();
        brackets();
        whatCanNotGoOn();
        fault();
        force();
        broken();
        holds();
        carries();
    }

    private static String many(String part, int times) { return part.repeat(times); }

    private static FolioStair fullTape() {
        FolioStair x = new FolioStair();
        for (int n = 0; n < 400; n += 20) x.feed(0, 0, 0, 0, 0);
        return x;
    }

    private static void feed() {
        Due.test("8 four bytes of each number, the highest first", due -> {
            FolioStair x = new FolioStair();
            due.is("twenty", x.feed(0x01020304, 0x05060708, 0x09010203, 0x04050607, 0x08090102), 20);
            due.is("rows", x.row(), 6);
            int[] bytes = {1, 2, 3, 4, 5, 6, 7, 8, 9, 1, 2, 3, 4, 5, 6, 7, 8, 9};
            for (int b = 0; b < 18; b++) due.is("byte " + b, x.of(b / 3, b % 3), bytes[b]);
            due.is("the two behind", x.torn(), 1);
        });
        Due.test("8 numbers below 0 are bytes from 128 on", due -> {
            // "bars" and one byte: the FAULT is at that byte, not ahead of it
            for (int b = 128; b < 256; b++) {
                FolioStair x = new FolioStair();
                x.feed(0x62617273, b << 24, 0, 0, 0);
                x.end(5);
                due.is("law", x.law(), -6);
                due.is("fault " + b, x.fault(), 4);
            }
        });
        Due.test("8 the TAPE has at most 400 bytes", due -> {
            FolioStair x = new FolioStair();
            for (int n = 20; n <= 400; n += 20) due.is("feed", x.feed(1, 1, 1, 1, 1), n);
            due.is("420", x.feed(1, 1, 1, 1, 1), NONE);
            due.is("as it was", x.count(6), 400);
        });
        Due.test("8 NONE, if there would be more than 400: none of the twenty come", due -> {
            for (int had = 381; had <= 400; had++) {
                FolioStair x = fullTape();
                x.end(had);
                due.is("feed behind " + had, x.feed(1, 1, 1, 1, 1), NONE);
                due.is("as it was", x.count(6), had);
            }
            FolioStair x = fullTape();
            x.end(380);
            due.is("just 400", x.feed(1, 1, 1, 1, 1), 400);
        });
        Due.test("8 NONE is no refusal", due -> {
            FolioStair x = fullTape();
            x.tread(0, 0);
            x.feed(0, 0, 0, 0, 0);
            due.is("status", x.status(), -1);
            due.is("none of -5", x.count(10), 0);
        });
        Due.test("8 behind the TAPE, where end() cut it", due -> {
            FolioStair x = new FolioStair();
            x.feed(0x05320300, 0, 0, 0, 0);
            x.end(3);
            due.is("feed", x.feed(0x06330400, 0, 0, 0, 0), 23);
            x.end(6);
            due.is("two", x.row(), 2);
            due.is("the second", x.of(1, 0) * 10000 + x.of(1, 1) * 100 + x.of(1, 2), 65104);
        });
    }

    private static void end() {
        Due.test("9 its first n bytes alone", due -> {
            FolioStair x = new FolioStair();
            x.feed(0x01010009, 0x09090909, 0, 0, 0);
            due.is("3", x.end(3), 3);
            due.is("one TREAD", x.row(), 1);
            due.is("nothing TORN", x.torn(), 0);
        });
        Due.test("9 NONE, if it has not so many", due -> {
            FolioStair x = new FolioStair();
            due.is("of none", x.end(1), NONE);
            x.feed(0, 0, 0, 0, 0);
            due.is("21", x.end(21), NONE);
            due.is("as it was", x.count(6), 20);
            due.is("just so many", x.end(20), 20);
            due.is("highest", x.end(HIGHEST), NONE);
            x.end(7);
            due.is("those that were cut", x.end(8), NONE);
            FolioStair y = fullTape();
            due.is("401", y.end(401), NONE);
            due.is("400", y.end(400), 400);
        });
        Due.test("9 NONE, if n is below 0", due -> {
            FolioStair x = new FolioStair();
            due.is("-1 of none", x.end(-1), NONE);
            x.feed(0, 0, 0, 0, 0);
            due.is("-1", x.end(-1), NONE);
            due.is("lowest", x.end(LOWEST), NONE);
            due.is("as it was", x.count(6), 20);
        });
        Due.test("9 end(0)", due -> {
            FolioStair x = new FolioStair();
            due.is("of none", x.end(0), 0);
            x.feed(0, 0, 0, 0, 0);
            due.is("0", x.end(0), 0);
            due.is("empty", x.row(), -6);
            due.is("status is not of end", x.end(5) + x.status(), -7);
        });
    }

    /** What came and what was TORN of one ROW on an object. */
    private static void rows(Due due, FolioStair x, int came, int torn, int... bytes) {
        Due.bytes(x, bytes);
        due.is("came", x.row(), came);
        due.is("torn", x.torn(), torn);
        due.is("the TAPE is empty", x.count(6), 0);
        due.is("status", x.status(), 0);
    }

    private static void row() {
        Due.test("10 -6 the TAPE is empty", due -> BoundaryTold.refused(due, FolioStair::new, "row", -6, x -> x.row()));
        Due.test("10 a TREAD of edges", due -> {
            FolioStair x = new FolioStair();
            rows(due, x, 2, 0, 1, 1, 0, 9, 99, 9);
            int[] there = {1, 1, 0, 0, 9, 99, 9, 0};
            for (int k = 0; k < 8; k++) due.is("of " + k, x.of(k / 4, k % 4), there[k]);
        });
        Due.test("10 one that can't be is TORN, those behind it come", due -> {
            rows(due, new FolioStair(), 1, 1, 0, 1, 0, 1, 1, 0);
            rows(due, new FolioStair(), 1, 1, 10, 1, 0, 1, 1, 0);
            rows(due, new FolioStair(), 1, 1, 1, 0, 0, 1, 1, 0);
            rows(due, new FolioStair(), 1, 1, 1, 100, 0, 1, 1, 0);
            rows(due, new FolioStair(), 1, 1, 1, 1, 10, 1, 1, 0);
            rows(due, new FolioStair(), 1, 1, 255, 255, 255, 1, 1, 0);
            rows(due, new FolioStair(), 1, 1, 129, 1, 0, 1, 1, 0);
        });
        Due.test("10 one within which the TAPE ends is TORN", due -> {
            rows(due, new FolioStair(), 0, 1, 1);
            rows(due, new FolioStair(), 0, 1, 1, 1);
            rows(due, new FolioStair(), 1, 1, 1, 1, 0, 1);
            rows(due, new FolioStair(), 1, 1, 1, 1, 0, 1, 1);
            rows(due, new FolioStair(), 2, 0, 1, 1, 0, 1, 1, 0);
        });
        Due.test("10 bytes that end() cut are no part of it", due -> {
            FolioStair x = new FolioStair();
            x.feed(0x01010001, 0x01000000, 0, 0, 0);
            x.end(5);
            due.is("came", x.row(), 1);
            due.is("torn", x.torn(), 1);
        });
        Due.test("10 one for which there is no room is TORN", due -> {
            FolioStair x = Due.stair(1, 1, 1, 1, 1, 1, 1, 1, 1, 1, 1);
            rows(due, x, 1, 2, 2, 3, 4, 5, 6, 7, 8, 9, 9);
            due.is("the 12th is the first of them", x.of(11, 1), 3);
            rows(due, x, 0, 1, 2, 3, 4);
            rows(due, x, 0, 2, 2, 3, 4, 5);
            due.is("twelve", x.count(0), 12);
        });
        Due.test("10 behind those that are there", due -> {
            FolioStair x = Due.stair(9);
            rows(due, x, 2, 0, 1, 2, 3, 4, 5, 6);
            due.is("the first stays", x.of(0, 0), 9);
            due.is("then", x.of(1, 1), 2);
            due.is("then", x.of(2, 1), 5);
            due.is("in", x.of(1, 3), 0);
        });
        Due.test("10 a full TAPE: 133 by threes and one", due -> {
            FolioStair x = fullTape();
            due.is("came", x.row(), 0);
            due.is("torn", x.torn(), 134);
        });
    }

    private static void torn() {
        Due.test("11 0 ahead of any", due -> {
            FolioStair x = new FolioStair();
            due.is("torn", x.torn(), 0);
            x.row();
            due.is("a refused one is none", x.torn(), 0);
        });
        Due.test("11 of the latest that was not REFUSED", due -> {
            FolioStair x = new FolioStair();
            rows(due, x, 0, 1, 1);
            x.row();
            due.is("it stays", x.torn(), 1);
            rows(due, x, 1, 0, 1, 1, 1);
            due.is("anew", x.torn(), 0);
        });
    }

    private static void law() {
        Due.test("12 LAWS, 6 at most: -5", due -> {
            FolioStair x = new FolioStair();
            for (int l = 0; l < 6; l++) due.is("law", Due.law(x, "bears " + l), l);
            due.is("the 7th", Due.law(x, "bears 6"), -5);
            due.is("status", x.status(), -5);
            due.is("six", x.count(2), 6);
        });
        Due.test("12 -5 ahead of reading it: FAULT stays, no -6", due -> {
            FolioStair x = new FolioStair();
            for (int l = 0; l < 5; l++) Due.law(x, "bars");
            Due.law(x, "bars x");
            Due.law(x, "bars");
            due.is("none", x.fault(), NONE);
            due.is("nonsense", Due.law(x, "nonsense"), -5);
            due.is("still none", x.fault(), NONE);
            x.end(0);
            due.is("an empty TAPE", x.law(), -5);
            due.is("-5", x.count(10), 2);
            due.is("-6", x.count(11), 1);
        });
        Due.test("12 -5: the TAPE is empty then, too", due -> {
            FolioStair x = new FolioStair();
            for (int l = 0; l < 6; l++) Due.law(x, "bars");
            Due.text(x, "bars");
            due.is("bytes", x.count(6), 4);
            x.law();
            due.is("none", x.count(6), 0);
        });
        Due.test("12 -6: the TAPE is empty then", due -> {
            FolioStair x = new FolioStair();
            due.is("law", Due.law(x, "bars x"), -6);
            due.is("none", x.count(6), 0);
            due.is("no LAW", x.count(2), 0);
            due.is("the next", Due.law(x, "bars"), 0);
            due.is("none", x.count(6), 0);
        });
        Due.test("12 -6 blanks alone: FAULT at the end", due -> {
            int[] blanks = {0, 1, 19, 20, 400};
            for (int n : blanks) faultAt(due, many(" ", n), n);
        });
        Due.test("12 each TEXT has its own CLAUSES, PARTS, brackets", due -> {
            FolioStair x = Due.stair(9);
            x.reader(1, 50);
            due.is("50 PARTS", Due.law(x, "bears 1" + many("+1", 49)), 0);
            due.is("50 PARTS again", Due.law(x, "bears 1" + many("+1", 48) + "+0"), 1);
            due.is("12 CLAUSES that can't be", Due.law(x, "bars" + many(";bars", 11) + ";"), -6);
            due.is("12 CLAUSES", Due.law(x, "bears 99" + many(";bears 0 if 1=2", 11)), 2);
            due.is("8 brackets that can't be", Due.law(x, "bears " + many("[", 8) + "bars"), -6);
            due.is("8 brackets", Due.law(x, "bears " + many("[", 8) + "49" + many("]", 8)), 3);
            int[] carried = {1, 0, 1, 0};
            for (int l = 0; l < 4; l++) {
                x.force(l);
                due.is("LAW " + l, x.carries(0, 0), carried[l]);
            }
        });
        Due.test("12 six LAWS of 50 PARTS, behind as many that can't be", due -> {
            FolioStair x = Due.stair(9);
            x.reader(1, 50);
            for (int l = 0; l < 6; l++) {
                due.is("51 PARTS", Due.law(x, "bears 1" + many("+1", 50)), -6);
                due.is("50 PARTS", Due.law(x, "bears " + l % 2 + many("+1", 49)), l);
            }
            for (int l = 0; l < 6; l++) {
                x.force(l);
                due.is("LAW " + l, x.carries(0, 0), l % 2);
            }
        });
        Due.test("12 bytes that end() cut are no part of the TEXT", due -> {
            String[] texts = {"bears |1", "bears 1+|1", "bars if 1=|1", "bears 1|001", "bears [1|]", "bears |thick", "bars |x", "bars |;"};
            int[] faults = {6, 8, 10, NONE, 8, 6, NONE, NONE};
            for (int k = 0; k < texts.length; k++) {
                FolioStair x = new FolioStair();
                Due.text(x, texts[k].replace("|", ""));
                x.end(texts[k].indexOf('|'));
                due.is("law " + texts[k], x.law(), faults[k] == NONE ? 0 : -6);
                due.is("fault " + texts[k], x.fault(), faults[k]);
            }
        });
        Due.test("12 a TEXT of 400 bytes", due -> {
            faultAt(due, "bears 1" + many(" ", 393), NONE);
            faultAt(due, many(" ", 396) + "bars", NONE);
            faultAt(due, many(" ", 396) + "barf", 396);
            faultAt(due, "bars" + many(" ", 395) + ";", 400);
            faultAt(due, "bars if " + many("not ", 97) + "1<2 ", NONE);
        });
    }

    private static void faultAt(Due due, String law, int place) {
        FolioStair x = new FolioStair();
        due.is("law " + law, Due.law(x, law), place == NONE ? 0 : -6);
        due.is("fault of " + law, x.fault(), place);
        due.is("laws of " + law, x.count(2), place == NONE ? 1 : 0);
    }

    private static void tokens() {
        Due.test("12 longest rows of letters", due -> {
            faultAt(due, "barsif1=1", 0);
            faultAt(due, "bars if 1=1or2=2", NONE);
            faultAt(due, "bars if not1=1", NONE);
            faultAt(due, "bars if notnot 1=1", 8);
            faultAt(due, "bearsthick", 0);
            faultAt(due, "bear s 1", 0);
            faultAt(due, "azbars", 0);
        });
        Due.test("12 longest rows of digits", due -> {
            faultAt(due, "bears 12 3", 9);
            faultAt(due, "bears 100 0", 10);
            faultAt(due, "bears1", NONE);
            faultAt(due, "bears1if1=1", NONE);
            faultAt(due, "bears 1if1=1and2=2", NONE);
            faultAt(due, "bears 1if1=1and2", 16);
        });
        Due.test("12 single other bytes", due -> {
            faultAt(due, "bars if 1<=2", 10);
            faultAt(due, "bars if 1<>2", 10);
            faultAt(due, "bars if 1==2", 10);
            faultAt(due, "bears 1--1", 8);
            faultAt(due, "bears [[1]]", NONE);
        });
        Due.test("12 any blanks (32) between, no other ones", due -> {
            faultAt(due, "  bars   if  1 = 1 ; bars  ", NONE);
            faultAt(due, "bears[1+2]*3;bars if(1=1)and(2=2)", NONE);
            for (int other : new int[] {0, 9, 10, 13, 31, 33, 127, 128, 160, 255}) faultAt(due, "bars " + (char) other, 5);
        });
        Due.test("12 letters a .. z alone, digits 0 .. 9 alone", due -> {
            faultAt(due, "Bars", 0);
            faultAt(due, "barS", 0);
            faultAt(due, "bears 1" + (char) ('a' - 1), 7);
            faultAt(due, "bears 1" + (char) ('z' + 1), 7);
            faultAt(due, "bears 1" + (char) ('0' - 1), 8);
            faultAt(due, "bears 1" + (char) ('9' + 1), 7);
            faultAt(due, "bears dust" + (char) ('a' - 1), 10);
            faultAt(due, "bears dust" + (char) ('z' + 1), 10);
        });
    }

    private static void clauses() {
        Due.test("12 CLAUSES, 12 at most", due -> {
            faultAt(due, "bars" + many(";bars", 11), NONE);
            faultAt(due, "bears 1" + many(";bears 1", 11), NONE);
        });
        Due.test("12 FAULT at the 13th's first TOKEN", due -> {
            faultAt(due, "bars" + many(";bars", 12), 60);
            faultAt(due, "bars" + many(";bars", 12) + " x", 60);
            faultAt(due, "bars" + many(";bars", 11) + " ;  bars", 63);
            faultAt(due, "bars" + many(";bars", 11) + ";x", 60);
            faultAt(due, "bars" + many(";bars", 11) + ";", 60);
            faultAt(due, "bars" + many(";bars", 11) + ";  ", 62);
            faultAt(due, "bars" + many(";bars", 11) + " bars", 60);
        });
        Due.test("12 the 12th CLAUSE counts", due -> {
            due.is("carries", under("bears 1" + many(";bears 1", 10) + ";bears 99"), 1);
            due.is("does not", under("bears 99" + many(";bears 99", 10) + ";bears 1"), 0);
            due.is("bars", under("bears 99" + many(";bears 99", 10) + ";bars"), 0);
        });
    }

    private static void numbersAndParts() {
        Due.test("12 NUMBER (to 1,000)", due -> {
            faultAt(due, "bears 0", NONE);
            faultAt(due, "bears 1000", NONE);
            faultAt(due, "bears 1001", 6);
            faultAt(due, "bears 9999", 6);
            faultAt(due, "bears 4294967297", 6);
            faultAt(due, "bears 18446744073709551617", 6);
            faultAt(due, "bears " + many("9", 394), 6);
            faultAt(due, "bars if 1=1 and 2=1001", 18);
        });
        Due.test("12 50 PARTS, FAULT at the 51st", due -> {
            faultAt(due, "bears 1" + many("+1", 49), NONE);
            faultAt(due, "bears 1" + many("+1", 50), 106);
            faultAt(due, "bears 1" + many("+1", 51), 106);
            faultAt(due, "bears dust" + many("+dust", 49), NONE);
            faultAt(due, "bears dust" + many("+dust", 50), 256);
            faultAt(due, "bears 1" + many("+1", 50) + "000", 106);
        });
        Due.test("12 50 PARTS of all CLAUSES together", due -> {
            faultAt(due, "bears 1" + many("+1", 47) + " if 1=1", NONE);
            faultAt(due, "bears 1" + many("+1", 48) + " if 1=1", 109);
            faultAt(due, "bears 1" + many("+1", 48) + ";bears 1", NONE);
            faultAt(due, "bears 1" + many("+1", 49) + ";bars", NONE);
            faultAt(due, "bears 1" + many("+1", 49) + ";bears 1", 112);
        });
        Due.test("12 PARTS in brackets are no PARTS besides", due -> {
            faultAt(due, "bears [1]" + many("+[1]", 49), NONE);
            faultAt(due, "bears [1]" + many("+[1]", 50), 207);
            faultAt(due, "bears [[1]]" + many("+1", 49), NONE);
        });
        Due.test("12 the 50th PART counts", due -> {
            due.is("50", under("bears 1" + many("+1", 49)), 1);
            due.is("49", under("bears 1" + many("+1", 48) + "+0"), 0);
        });
    }

    private static void brackets() {
        Due.test("12 8 brackets within one another, FAULT at the 9th", due -> {
            faultAt(due, "bears " + many("[", 8) + "1" + many("]", 8), NONE);
            faultAt(due, "bears " + many("[", 9) + "1" + many("]", 9), 14);
            faultAt(due, "bars if " + many("(", 8) + "1=1" + many(")", 8), NONE);
            faultAt(due, "bars if " + many("(", 9) + "1=1" + many(")", 9), 16);
            faultAt(due, "bears " + many("[", 300), 14);
        });
        Due.test("15 what waits in 8 brackets", due -> {
            String sums = "=1+1*" + many("[1+1*", 8) + "1" + many("]", 8);
            due.is("10", under("bars if 10" + sums), 0);
            due.is("9", under("bars if 9" + sums), 1);
            String both = "=1+1*" + many("[1+1*", 4) + "1" + many("]", 4) + many(")", 4);
            for (String ahead : new String[] {"(1=1 and ", "(1=2 or "}) {
                due.is("6", under("bars if " + many(ahead, 4) + "6" + both), 0);
                due.is("5", under("bars if " + many(ahead, 4) + "5" + both), 1);
            }
        });
        Due.test("12 brackets of both kinds together", due -> {
            faultAt(due, "bars if " + many("(", 7) + "[1]=1" + many(")", 7), NONE);
            faultAt(due, "bars if " + many("(", 8) + "[1]=1" + many(")", 8), 16);
            faultAt(due, "bars if " + many("(", 8) + "1=[1]" + many(")", 8), 18);
            faultAt(due, "bars if (" + many("[", 7) + "1" + many("]", 7) + "=1)", NONE);
            faultAt(due, "bars if (" + many("[", 8) + "1" + many("]", 8) + "=1)", 16);
        });
        Due.test("12 brackets behind one another are not within one another", due -> {
            faultAt(due, "bears [1]" + many("+[1]", 20), NONE);
            faultAt(due, "bears " + many("[", 8) + "1" + many("]", 8) + "+" + many("[", 8) + "1" + many("]", 8), NONE);
            faultAt(due, "bars if " + many("(", 8) + "1=1" + many(")", 8) + "or" + many("(", 8) + "1=1" + many(")", 8), NONE);
            faultAt(due, "bears " + many("[", 8) + "1" + many("]", 8) + " if " + many("(", 8) + "1=1" + many(")", 8), NONE);
            faultAt(due, "bars if not(not(not(1=1)))", NONE);
        });
    }

    private static void whatCanNotGoOn() {
        Due.test("12 a CLAUSE begins with bears or bars", due -> {
            faultAt(due, "if 1=1", 0);
            faultAt(due, "thick", 0);
            faultAt(due, "1", 0);
            faultAt(due, ";", 0);
            faultAt(due, "bars;if 1=1", 5);
            faultAt(due, "bars;;bars", 5);
        });
        Due.test("12 behind bears a SUM", due -> {
            faultAt(due, "bears", 5);
            faultAt(due, "bears;", 5);
            faultAt(due, "bears if", 6);
            faultAt(due, "bears (1)", 6);
            faultAt(due, "bears +1", 6);
            faultAt(due, "bears not 1", 6);
            faultAt(due, "bears bars", 6);
            faultAt(due, "bears 1+", 8);
            faultAt(due, "bears 1-", 8);
            faultAt(due, "bears 1*", 8);
            faultAt(due, "bears 1/", 8);
            faultAt(due, "bears 1+;", 8);
            faultAt(due, "bears 1**1", 8);
            faultAt(due, "bears bears", NONE);
        });
        Due.test("12 bars has no SUM", due -> {
            faultAt(due, "bars 1", 5);
            faultAt(due, "bars thick", 5);
            faultAt(due, "bars [1]", 5);
            faultAt(due, "bars", NONE);
        });
        Due.test("12 behind if a TEST", due -> {
            faultAt(due, "bars if", 7);
            faultAt(due, "bars if;", 7);
            faultAt(due, "bars if 1", 9);
            faultAt(due, "bars if 1;", 9);
            faultAt(due, "bars if 1+", 10);
            faultAt(due, "bars if 1=", 10);
            faultAt(due, "bars if =1", 8);
            faultAt(due, "bars if 1=1=1", 11);
            faultAt(due, "bars if 1=1 if 1=1", 12);
            faultAt(due, "bars if and 1=1", 8);
            faultAt(due, "bars if 1=1 and", 15);
            faultAt(due, "bars if 1=1 or", 14);
            faultAt(due, "bars if not", 11);
            faultAt(due, "bars if 1=1 or;", 14);
            faultAt(due, "bars if 1=1 or or", 15);
            faultAt(due, "bars if 1=1 not 1=1", 12);
            faultAt(due, "bars if 1 and 1=1", 10);
        });
        Due.test("12 ( ) of TESTS alone, [ ] of SUMS alone", due -> {
            faultAt(due, "bars if (1)=1", 10);
            faultAt(due, "bars if (1+1)*2=4", 12);
            faultAt(due, "bars if [1=1]", 10);
            faultAt(due, "bars if 1=(1)", 10);
            faultAt(due, "bars if ()", 9);
            faultAt(due, "bears []", 7);
            faultAt(due, "bears [1", 8);
            faultAt(due, "bears [1)", 8);
            faultAt(due, "bears 1]", 7);
            faultAt(due, "bars if (1=1", 12);
            faultAt(due, "bars if (1=1]", 12);
            faultAt(due, "bars if 1=1)", 11);
            faultAt(due, "bars if (1=1)=1", 13);
            faultAt(due, "bars if (1=1)<(2=2)", 13);
        });
        Due.test("12 PARTS are NUMBERS, brackets and nine words", due -> {
            String[] words = {"reader", "tread", "thick", "level", "weight", "stride", "hour", "dust", "bears"};
            for (String word : words) {
                faultAt(due, "bears " + word, NONE);
                faultAt(due, "bears " + word + "s", 6);
                faultAt(due, "bears " + word.substring(1), 6);
            }
            for (String word : new String[] {"bars", "if", "or", "and", "not", "out", "drop", "top"}) faultAt(due, "bears " + word, 6);
        });
    }

    private static void fault() {
        Due.test("13 NONE without: ahead of any law(), behind a good one", due -> {
            FolioStair x = new FolioStair();
            due.is("ahead", x.fault(), NONE);
            Due.law(x, "x");
            due.is("bad", x.fault(), 0);
            Due.law(x, "bars");
            due.is("good", x.fault(), NONE);
        });
        Due.test("13 of the latest law() that read a TEXT", due -> {
            FolioStair x = new FolioStair();
            for (int l = 0; l < 5; l++) Due.law(x, "bars");
            x.image(0);
            Due.law(x, "bars");
            Due.law(x, "x");
            due.is("-5 has read none", x.fault(), NONE);
            x.back(0);
            Due.law(x, "bars x");
            due.is("read", x.fault(), 5);
            Due.law(x, "bars");
            due.is("good", x.fault(), NONE);
            FolioStair y = new FolioStair();
            Due.law(y, "  x");
            Due.bytes(y, 1, 1, 1);
            y.row();
            due.is("a ROW is no TEXT", y.fault(), 2);
        });
        Due.test("13 the end's: the TEXT's length", due -> {
            faultAt(due, "bears", 5);
            faultAt(due, "bears   ", 8);
            faultAt(due, "bears 1;", 8);
            faultAt(due, "bars if 1=[2", 12);
            faultAt(due, "bars if 1=[2" + many(" ", 388), 400);
        });
        Due.test("13 what stands behind a FAULT is no matter", due -> {
            faultAt(due, "bars x [[[[[[[[[[[[", 5);
            faultAt(due, "bears 1001+1001", 6);
            faultAt(due, "bears 1 1 ;;", 8);
        });
    }

    private static void force() {
        Due.test("14 NONE at first, NONE: none", due -> {
            FolioStair x = new FolioStair();
            due.is("of no LAWS", x.force(NONE), NONE);
            Due.law(x, "bars");
            due.is("first", x.force(0), NONE);
            due.is("then", x.force(NONE), 0);
            due.is("again", x.force(NONE), NONE);
            due.is("status", x.status(), 0);
        });
        Due.test("14 -2 there is no such LAW", due -> {
            for (int bad : new int[] {-2, 2, 6, 256, LOWEST, HIGHEST}) {
                BoundaryTold.refused(due, BoundaryLaws::twoLaws, "force " + bad, -2, x -> x.force(bad));
            }
            due.is("of no LAWS", new FolioStair().force(0), -2);
        });
        Due.test("14 which was, if it is the same, too", due -> {
            FolioStair x = twoLaws();
            due.is("1", x.force(1), 1);
            due.is("still", x.force(0), 1);
        });
        Due.test("14 a LAW is asked only in FORCE", due -> {
            FolioStair x = Due.stair(1);
            x.reader(1, 1);
            Due.law(x, "bars");
            due.is("not yet", x.carries(0, 0), 1);
            x.force(0);
            due.is("in FORCE", x.carries(0, 0), 0);
            x.force(NONE);
            due.is("no CLAUSE", x.carries(0, 0), 1);
        });
        Due.test("14 the 6th LAW", due -> {
            FolioStair x = Due.stair(1);
            x.reader(1, 50);
            for (int l = 0; l < 6; l++) Due.law(x, "bears 45+" + l);
            x.force(4);
            due.is("49", x.carries(0, 0), 0);
            x.force(5);
            due.is("50", x.carries(0, 0), 1);
        });
    }

    private static FolioStair twoLaws() {
        FolioStair x = Due.stair(1);
        x.reader(1, 1);
        Due.law(x, "bars");
        Due.law(x, "bears 1");
        x.force(1);
        return x;
    }

    /** Whether a TREAD of THICK 4, BEARS 60, DUST 3 carries a READER of STRIDE 5, WEIGHT 50 under a LAW. */
    private static int under(String law) {
        FolioStair x = new FolioStair();
        x.tread(4, 60);
        x.put(0, 2, 3);
        x.reader(5, 50);
        x.force(Due.law(x, law));
        return x.count(12) == 0 ? x.carries(0, 0) : -7;
    }

    /** A TEST is so, not so, or BROKEN: "bars" by it and by its "not". */
    private static void test(Due due, String test, int so) {
        due.is(test, under("bars if " + test), so == 1 ? 0 : 1);
        due.is("not: " + test, under("bars if not(" + test + ")"), so == 0 ? 0 : 1);
    }

    private static final int BROKEN = 2;

    private static void broken() {
        Due.test("15 < > = of less, alike, more", due -> {
            String[] pairs = {"1:2", "2:2", "3:2"};
            for (int k = 0; k < 3; k++) {
                test(due, pairs[k].replace(':', '<'), k == 0 ? 1 : 0);
                test(due, pairs[k].replace(':', '='), k == 1 ? 1 : 0);
                test(due, pairs[k].replace(':', '>'), k == 2 ? 1 : 0);
            }
            test(due, "0-1<0", 1);
            test(due, "0-2>0-1", 0);
        });
        Due.test("15 * and / ahead of + and -, from the left", due -> {
            test(due, "1+2*3=7", 1);
            test(due, "[1+2]*3=9", 1);
            test(due, "9-3-2=4", 1);
            test(due, "9-[3-2]=8", 1);
            test(due, "9/2*2=8", 1);
            test(due, "9*2/4=4", 1);
            test(due, "8/4/2=1", 1);
        });
        Due.test("15 not ahead of and, and ahead of or", due -> {
            test(due, "1=1 or 1=1 and 1=2", 1);
            test(due, "(1=1 or 1=1) and 1=2", 0);
            test(due, "not 1=2 and 1=2", 0);
            test(due, "not(1=2 and 1=2)", 1);
            test(due, "not not 1=1", 1);
            test(due, "not not not 1=1", 0);
        });
        Due.test("15 beyond 1,000,000,000", due -> {
            test(due, "1000*1000*1000>0", 1);
            test(due, "1000*1000*1000+0>0", 1);
            test(due, "1000*1000*1000+1>0", BROKEN);
            test(due, "1+1000*1000*1000>0", BROKEN);
            test(due, "1000*1000*1000*2/2>0", BROKEN);
            test(due, "999*1000*1000+1000*1000=1000*1000*1000", 1);
            test(due, "1000*1000*1000*2>0", BROKEN);
            test(due, "1000*1000*1000*1000*1000*1000*1000*1000=0", BROKEN);
        });
        Due.test("15 beyond -1,000,000,000", due -> {
            test(due, "0-1000*1000*1000<0", 1);
            test(due, "0-1000*1000*1000-1<0", BROKEN);
            test(due, "[0-1000]*1000*1000<0", 1);
            test(due, "[0-1000]*1000*1000*2<0", BROKEN);
        });
        Due.test("15 what is BROKEN is so each time that it is asked, and all else stays", due -> {
            FolioStair x = Due.stair(1);
            x.reader(1, 50);
            x.force(Due.law(x, "bears 1+1*[1+1*[1+1*[1/0]]];bars if 1=1+1*[1/0];bears 50;bars if 2=1+1*[1/0]"));
            for (int k = 0; k < 100; k++) due.is("carries", x.carries(0, 0), 1);
            x.turn(0, 1, 51);
            for (int k = 0; k < 100; k++) due.is("does not", x.carries(0, 0), 0);
        });
        Due.test("15 divided by 0", due -> {
            test(due, "1/0=0", BROKEN);
            test(due, "0/0=0", BROKEN);
            test(due, "1/[1-1]=0", BROKEN);
            test(due, "0/1=0", 1);
            test(due, "1/[0-1]=0-1", 1);
            test(due, "0*[1/0]=0", BROKEN);
            test(due, "1=1/0", BROKEN);
        });
        Due.test("15 / is cut towards 0", due -> {
            test(due, "7/2=3", 1);
            test(due, "[0-7]/2=0-3", 1);
            test(due, "7/[0-2]=0-3", 1);
            test(due, "[0-7]/[0-2]=3", 1);
            test(due, "1/2=0", 1);
            test(due, "[0-1]/2=0", 1);
            test(due, "999/1000=0", 1);
            test(due, "1000/1000=1", 1);
        });
        Due.test("15 or, and ask what stands behind only if it can still matter", due -> {
            test(due, "1=1 or 1/0=0", 1);
            test(due, "1=2 or 1/0=0", BROKEN);
            test(due, "1=2 and 1/0=0", 0);
            test(due, "1=1 and 1/0=0", BROKEN);
            test(due, "1=2 and 1/0=0 or 1=1", 1);
            test(due, "1=2 and 1/0=0 and 1/0=0", 0);
            test(due, "1=1 or 1/0=0 or 1/0=0", 1);
            test(due, "1=1 or 1/0=0 and 1/0=0", 1);
            test(due, "1=2 or 1=1 or 1/0=0", 1);
            test(due, "(1=1 or 1/0=0) and 1=2", 0);
            test(due, "not 1=1 or not 1=2", 1);
        });
        Due.test("15 or, and of 25 comparisons: 50 PARTS", due -> {
            test(due, many("1=2 or ", 24) + "1=1", 1);
            test(due, many("1=2 or ", 24) + "1=2", 0);
            test(due, many("1=1 and ", 24) + "1=2", 0);
            test(due, many("1=1 and ", 24) + "1=1", 1);
            test(due, many("1=1 and ", 23) + "1/0=1", BROKEN);
        });
        Due.test("15 a part that was asked and is BROKEN makes all of it BROKEN", due -> {
            test(due, "1/0=0 or 1=1", BROKEN);
            test(due, "1/0=0 and 1=2", BROKEN);
            test(due, "(1/0=0) or 1=1", BROKEN);
            test(due, "not 1/0=0", BROKEN);
            test(due, "1=1 and 1/0=0 or 1=1", BROKEN);
            test(due, "1=2 or 1/0=0 or 1=1", BROKEN);
            test(due, "1=1 and (1=2 or 1/0=0) or 1=1", BROKEN);
        });
    }

    private static void holds() {
        Due.test("15 a CLAUSE without if HOLDS", due -> {
            due.is("bars", under("bars"), 0);
            due.is("bears", under("bears 0"), 0);
        });
        Due.test("15 a CLAUSE HOLDS, if its if is so", due -> {
            due.is("so", under("bears 0 if thick=4"), 0);
            due.is("not so", under("bears 0 if thick=5"), 1);
            due.is("bars not so", under("bars if thick=5"), 1);
        });
        Due.test("15 a CLAUSE's SUM is what it tells, whatever its if asks", due -> {
            due.is("or, the second", under("bears 50 if 1=2 or 1=1"), 1);
            due.is("or, the third", under("bears 49 if 1=2 or 1=2 or 1=1"), 0);
            due.is("or, the first", under("bears 50 if 1=1 or 1=2"), 1);
            due.is("and", under("bears 50 if 1=1 and 1=1 and 1=1"), 1);
            due.is("and", under("bears 49 if 1=1 and 1=1 and 1=1"), 0);
            due.is("not", under("bears 50 if not(1=2 or 1=2 and 1=1)"), 1);
            due.is("none is so", under("bears 0 if 1=2 or 1=2 and 1=1"), 1);
            due.is("SUMs within", under("bears 49+1 if [1+[2*3]]=7 and (2=3 or 4>3)"), 1);
        });
        Due.test("15 a BROKEN SUM does not HOLD", due -> {
            due.is("alone", under("bears 0*1/0"), 1);
            due.is("with an if", under("bears 1/0 if 1=1"), 1);
            due.is("what was ahead stays", under("bears 49;bears 1/0"), 0);
            due.is("those behind hold", under("bears 1/0;bears 49"), 0);
            due.is("beyond", under("bears 0-1000*1000*1000-1"), 1);
        });
        Due.test("15 a BROKEN if does not HOLD", due -> {
            due.is("bars", under("bars if 1/0=0"), 1);
            due.is("bears", under("bears 0 if 1/0=0"), 1);
            due.is("the one behind", under("bars if 1/0=0;bars"), 0);
            due.is("the one behind", under("bars if 1/0=0;bears 49"), 0);
        });
        Due.test("15 the last bears that HOLDS", due -> {
            due.is("the last", under("bears 0;bears 50"), 1);
            due.is("the last", under("bears 50;bears 0"), 0);
            due.is("that HOLDS", under("bears 50;bears 0 if 1=2"), 1);
            due.is("bars between", under("bears 50;bars if 1=2;bears 49"), 0);
        });
        Due.test("15 what it BEARS without", due -> {
            due.is("none HOLDS", under("bears 0 if 1=2;bears 1 if 1=2"), 1);
            due.is("bars alone", under("bars if 1=2"), 1);
        });
        Due.test("15 bears as a PART: what it is told to BEAR, not what a CLAUSE told", due -> {
            due.is("60", under("bears bears-10"), 1);
            due.is("49", under("bears bears-11"), 0);
            due.is("60 still", under("bears 10;bears bears-10"), 1);
        });
        Due.test("15 any bars that HOLDS", due -> {
            due.is("ahead of bears", under("bars;bears 99"), 0);
            due.is("behind", under("bears 99;bars"), 0);
            due.is("with one that does not", under("bars;bars if 1=2"), 0);
        });
    }

    private static void carries() {
        Due.test("15 not less than WEIGHT", due -> {
            FolioStair x = Due.stair(1);
            x.reader(1, 99);
            due.is("99 of 99", x.carries(0, 0), 1);
            x.put(0, 1, 98);
            due.is("99 of 98", x.carries(0, 0), 0);
            x.put(0, 1, 1);
            x.turn(0, 1, 1);
            due.is("1 of 1", x.carries(0, 0), 1);
            due.is("50 of 50", under("bears 50"), 1);
            due.is("50 of 49", under("bears 49"), 0);
        });
        Due.test("15 a SUM can tell more than 99 and less than 0", due -> {
            due.is("a thousand millions", under("bears 1000*1000*1000"), 1);
            due.is("below 0", under("bears 0-1000*1000*1000"), 0);
            due.is("0", under("bears 0"), 0);
        });
        Due.test("15 in or OUT", due -> {
            FolioStair x = Due.stair(1);
            x.reader(1, 1);
            x.put(0, 3, 1);
            due.is("OUT", x.carries(0, 0), 1);
            x.put(0, 1, 1);
            x.turn(0, 1, 2);
            due.is("too much", x.carries(0, 0), 0);
        });
        Due.test("15 NONE without such a TREAD, READER", due -> {
            FolioStair x = Due.stair(1, 1);
            x.reader(1, 1);
            for (int bad : new int[] {-1, 2, 12, 100, LOWEST, HIGHEST}) due.is("tread " + bad, x.carries(bad, 0), NONE);
            for (int bad : new int[] {-1, 1, 6, LOWEST, HIGHEST}) due.is("reader " + bad, x.carries(0, bad), NONE);
            due.is("no refusal", x.status(), 0);
        });
        Due.test("15 the words at the highest TREAD and READER", due -> {
            FolioStair x = Due.stair(9, 9, 9, 9, 9, 9, 9, 9, 9, 9, 9, 9);
            for (int r = 0; r < 6; r++) x.reader(40, 99);
            x.put(11, 2, 9);
            x.terms(0, 23);
            Due.law(x, "bars if reader=5 and tread=11 and thick=9 and level=108 and weight=99 and stride=40 and hour=23 and dust=9 and bears=99");
            x.force(0);
            due.is("all", x.carries(11, 5), 0);
            due.is("another READER", x.carries(11, 4), 1);
            due.is("another TREAD", x.carries(10, 5), 1);
        });
    }
}
