/** For each promise at least one test: ordinary inputs, the edges that the document names, wrong inputs. */
public final class PromiseTests {
    private static final int NONE = -1;
    private static final int[] ANY = {Integer.MIN_VALUE, -7, 100, Integer.MAX_VALUE};

    public static void main(String[] args) {
        treadsAndReaders();
        tapeAndRows();
        laws();
        walks();
        setsOfTreads();
        askings();
        bestAndBuilt();
        tracksSortedToes();
        daysAndImages();
        counts();
        shown();
        Due.close();
    }

    private static String many(String part, int times) { return part.repeat(times); }

    private static void shown() {
        Due.test("the calls that README.md shows", due -> {
            FolioStair x = new FolioStair();
            int[] got = {x.tread(3, 50), x.tread(3, 50), x.reader(6, 30), x.comes(0), x.way(0, 1, -1), x.ask(0, 1), x.day(0), x.stands(0),
                x.feed(0x62617273, 0x20696620, 0x74726561, 0x643d3120, 0), x.end(16), x.law(), x.force(0), x.carries(1, 0), x.tread(0, 50),
                x.status()};
            int[] want = {0, 1, 0, 3, 1, 0, 1, 100, 20, 16, 0, -1, 0, -1, -1};
            for (int k = 0; k < want.length; k++) due.is("call " + k, got[k], want[k]);
        });
    }

    private static void treadsAndReaders() {
        Due.test("1 a new object", due -> {
            FolioStair x = new FolioStair();
            int[] first = {0, 0, 0, 0, 0, 0, 0, 0, 0, 0, 0, 0, NONE, 9, 0, NONE};
            for (int what = 0; what < first.length; what++) due.is("count " + what, x.count(what), first[what]);
            due.is("status", x.status(), 0);
            due.is("torn", x.torn(), 0);
            due.is("fault", x.fault(), NONE);
            due.is("NONE", FolioStair.NONE, -1);
            due.is("no treads", x.of(0, 0), NONE);
            due.is("no readers", x.comes(0), NONE);
        });
        Due.test("2 tread", due -> {
            FolioStair x = new FolioStair();
            for (int t = 0; t < 12; t++) due.is("tread", x.tread(t % 9 + 1, 99 - t), t);
            due.is("thick", x.of(8, 0), 9);
            due.is("bears", x.of(8, 1), 91);
            due.is("dust", x.of(8, 2), 0);
            due.is("in", x.of(8, 3), 0);
            due.is("no room", x.tread(1, 1), -5);
            due.is("a number ahead of room", x.tread(10, 1), -1);
            due.is("status", x.status(), -1);
            FolioStair y = new FolioStair();
            for (int bad : new int[] {0, 10, -1, Integer.MIN_VALUE, Integer.MAX_VALUE}) due.is("thick " + bad, y.tread(bad, 5), -1);
            for (int bad : new int[] {0, 100, -1, Integer.MIN_VALUE, Integer.MAX_VALUE}) due.is("bears " + bad, y.tread(5, bad), -1);
            due.is("none came", y.count(0), 0);
            due.is("edges", y.tread(9, 99), 0);
            due.is("edges", y.tread(1, 1), 1);
        });
        Due.test("3 put", due -> {
            FolioStair x = Due.stair(3, 4);
            due.is("thick", x.put(1, 0, 9), 4);
            due.is("bears", x.put(1, 1, 1), 99);
            due.is("dust", x.put(1, 2, 9), 0);
            due.is("out", x.put(1, 3, 1), 0);
            due.is("out again", x.put(1, 3, 1), 1);
            due.is("status", x.status(), 0);
            int[] now = {9, 1, 9, 1};
            for (int w = 0; w < 4; w++) due.is("of " + w, x.of(1, w), now[w]);
            due.is("the other one", x.of(0, 0), 3);
            int[][] bad = {{0, 0}, {0, 10}, {1, 0}, {1, 100}, {2, -1}, {2, 10}, {3, -1}, {3, 2}, {4, 1}, {-1, 1}};
            for (int[] b : bad) due.is("put " + b[0] + " " + b[1], x.put(0, b[0], b[1]), -1);
            due.is("no tread", x.put(2, 0, 5), -2);
            due.is("no tread", x.put(-1, 0, 5), -2);
            due.is("number ahead of tread", x.put(2, 0, 0), -1);
            due.is("dust 0", x.put(1, 2, 0), 9);
        });
        Due.test("4 of", due -> {
            FolioStair x = Due.stair(3, 4, 9);
            x.put(0, 3, 1);
            due.is("level", x.of(0, 4), 3);
            due.is("level over an OUT one", x.of(2, 4), 16);
            due.is("what 5", x.of(0, 5), NONE);
            due.is("what -1", x.of(0, -1), NONE);
            due.is("tread 3", x.of(3, 0), NONE);
            due.is("tread -1", x.of(-1, 4), NONE);
            for (int any : ANY) due.is("any", x.of(any, any), NONE);
        });
        Due.test("5 reader", due -> {
            FolioStair x = new FolioStair();
            for (int r = 0; r < 6; r++) due.is("reader", x.reader(40, 99), r);
            due.is("no room", x.reader(1, 1), -5);
            due.is("number first", x.reader(0, 1), -1);
            FolioStair y = new FolioStair();
            for (int bad : new int[] {0, 41, Integer.MIN_VALUE}) due.is("stride", y.reader(bad, 1), -1);
            for (int bad : new int[] {0, 100, Integer.MAX_VALUE}) due.is("weight", y.reader(1, bad), -1);
            due.is("count", y.count(1), 0);
            due.is("edges", y.reader(1, 1), 0);
        });
        Due.test("6 turn", due -> {
            FolioStair x = new FolioStair();
            x.reader(5, 30);
            due.is("stride", x.turn(0, 0, 40), 5);
            due.is("stride", x.turn(0, 0, 1), 40);
            due.is("weight", x.turn(0, 1, 99), 30);
            due.is("weight", x.turn(0, 1, 1), 99);
            int[][] bad = {{0, 0}, {0, 41}, {1, 0}, {1, 100}, {2, 1}, {-1, 1}};
            for (int[] b : bad) due.is("turn", x.turn(0, b[0], b[1]), -1);
            due.is("no reader", x.turn(1, 0, 5), -2);
            due.is("no reader", x.turn(-1, 0, 5), -2);
            due.is("number first", x.turn(1, 0, 0), -1);
            due.is("unchanged", x.turn(0, 0, 3), 1);
        });
        Due.test("7 terms", due -> {
            FolioStair x = new FolioStair();
            due.is("hour", x.terms(0, 23), 9);
            due.is("hour", x.terms(0, 0), 23);
            due.is("drop", x.terms(1, 9), 0);
            due.is("drop", x.terms(1, 0), 9);
            int[][] bad = {{0, -1}, {0, 24}, {1, -1}, {1, 10}, {2, 0}, {-1, 0}, {Integer.MIN_VALUE, 0}};
            for (int[] b : bad) due.is("terms", x.terms(b[0], b[1]), -1);
            due.is("status", x.status(), -1);
            due.is("kept", x.terms(0, 5), 0);
        });
    }

    private static void tapeAndRows() {
        Due.test("8 feed", due -> {
            FolioStair x = new FolioStair();
            due.is("twenty", x.feed(0x01020304, 0x05060708, 0x09010203, 0x04050607, -1), 20);
            due.is("rows come in the order of bytes", x.row(), 5);
            int[] thick = {1, 4, 7, 1, 4};
            for (int t = 0; t < 5; t++) due.is("thick " + t, x.of(t, 0), thick[t]);
            due.is("the fifth", x.of(4, 2), 6);
            due.is("the rest is torn: 7 255 255, 255 255", x.torn(), 2);
            for (int n = 20; n <= 400; n += 20) due.is("feed", x.feed(0, 0, 0, 0, 0), n);
            due.is("full", x.feed(0, 0, 0, 0, 0), NONE);
            due.is("as it was", x.count(6), 400);
            due.is("end", x.end(381), 381);
            due.is("still too many", x.feed(0, 0, 0, 0, 0), NONE);
            due.is("end", x.end(380), 380);
            due.is("room", x.feed(0, 0, 0, 0, 0), 400);
        });
        Due.test("9 end", due -> {
            FolioStair x = new FolioStair();
            due.is("nothing", x.end(0), 0);
            due.is("not so many", x.end(1), NONE);
            due.is("below 0", x.end(-1), NONE);
            x.feed(0, 0, 0, 0, 0);
            due.is("21", x.end(21), NONE);
            due.is("20", x.end(20), 20);
            due.is("3", x.end(3), 3);
            due.is("count", x.count(6), 3);
            due.is("4", x.end(4), NONE);
            due.is("min", x.end(Integer.MIN_VALUE), NONE);
            due.is("status is not of end", x.status(), 0);
        });
        Due.test("10 row, 11 torn", due -> {
            FolioStair x = new FolioStair();
            due.is("empty", x.row(), -6);
            due.is("status", x.status(), -6);
            due.is("torn ahead of any", x.torn(), 0);
            Due.bytes(x, 1, 1, 0, 9, 99, 9, 0, 1, 0, 10, 1, 0, 1, 0, 0, 1, 100, 0, 1, 1, 10, 5, 5, 5, 1, 2);
            due.is("came", x.row(), 3);
            due.is("torn", x.torn(), 6);
            due.is("tape", x.count(6), 0);
            due.is("first", x.of(0, 1), 1);
            due.is("second", x.of(1, 1), 99);
            due.is("second dust", x.of(1, 2), 9);
            due.is("third", x.of(2, 0), 5);
            due.is("in", x.of(2, 3), 0);
            due.is("refused", x.row(), -6);
            due.is("torn stays", x.torn(), 6);
            Due.text(x, many("\2\3\4", 11));
            due.is("room for nine", x.row(), 9);
            due.is("two without room", x.torn(), 2);
            due.is("twelve", x.count(0), 12);
            Due.bytes(x, 2, 3, 4);
            due.is("none came", x.row(), 0);
            due.is("no refusal", x.status(), 0);
            due.is("torn", x.torn(), 1);
            Due.bytes(x, 2);
            due.is("none came", x.row(), 0);
            due.is("torn", x.torn(), 1);
        });
    }

    /** Whether TREAD 0 (THICK 4, BEARS 60, DUST 3) carries READER 1 (STRIDE 5, WEIGHT 50) under a LAW. */
    private static int under(String law) {
        FolioStair x = new FolioStair();
        x.tread(4, 60);
        x.put(0, 2, 3);
        x.reader(1, 1);
        x.reader(5, 50);
        x.force(Due.law(x, law));
        return x.count(12) == 0 ? x.carries(0, 1) : -7;
    }

    private static void faultAt(Due due, String law, int place) {
        FolioStair x = new FolioStair();
        due.is("law " + law, Due.law(x, law), place == NONE ? 0 : -6);
        due.is("fault of " + law, x.fault(), place);
        due.is("tape after " + law, x.count(6), 0);
    }

    private static void laws() {
        Due.test("12 law, 13 fault: what can't go on", due -> {
            faultAt(due, "", 0);
            faultAt(due, "   ", 3);
            faultAt(due, "bears", 5);
            faultAt(due, "bears  ", 7);
            faultAt(due, " barss", 1);
            faultAt(due, "BARS", 0);
            faultAt(due, "bars\t", 4);
            faultAt(due, "bars bars", 5);
            faultAt(due, "bars;", 5);
            faultAt(due, "bars;;", 5);
            faultAt(due, ";bars", 0);
            faultAt(due, "if 1=1", 0);
            faultAt(due, "bars if", 7);
            faultAt(due, "bars if or", 8);
            faultAt(due, "bars if 1", 9);
            faultAt(due, "bars if 1 and", 10);
            faultAt(due, "bars if 1=1=1", 11);
            faultAt(due, "bars if 1<=1", 10);
            faultAt(due, "bars if (1=1", 12);
            faultAt(due, "bars if (1)=1", 10);
            faultAt(due, "bars if [1=1]", 10);
            faultAt(due, "bars if (1=1] ", 12);
            faultAt(due, "bars if 1=1)", 11);
            faultAt(due, "bars if not", 11);
            faultAt(due, "bars not 1=1", 5);
            faultAt(due, "bears (1)", 6);
            faultAt(due, "bears -1", 6);
            faultAt(due, "bears 1+", 8);
            faultAt(due, "bears 1 1", 8);
            faultAt(due, "bears 1a", 7);
            faultAt(due, "bears [1", 8);
            faultAt(due, "bears []", 7);
            faultAt(due, "bears [1)", 8);
            faultAt(due, "bears 1]", 7);
            faultAt(due, "bears 1001", 6);
            faultAt(due, "bears 99999999999999999999", 6);
            faultAt(due, "bears 1000", NONE);
            faultAt(due, "bears 0001000", NONE);
            faultAt(due, "bears stair", 6);
            faultAt(due, "bears readers", 6);
            faultAt(due, "bears if 1=1", 6);
            faultAt(due, "bars if 1=1 else", 12);
            faultAt(due, "bears thick\u00e9", 11);
            faultAt(due, "bears bears;bars if not not(1=1)or 2<3and[4]>5", NONE);
            faultAt(due, "bearsbears", 0);
        });
        Due.test("12 law: how many", due -> {
            faultAt(due, "bars" + many(";bars", 11), NONE);
            faultAt(due, "bars" + many(";bars", 11) + " ; bars", 62);
            faultAt(due, "bars" + many(";bars", 11) + ";", 60);
            faultAt(due, "bears 1" + many("+1", 49), NONE);
            faultAt(due, "bears 1" + many("+1", 50), 106);
            faultAt(due, "bears 1" + many("+dust", 49) + ";bears hour", 259);
            faultAt(due, "bears " + many("[", 8) + "1" + many("]", 8), NONE);
            faultAt(due, "bears " + many("[", 9) + "1" + many("]", 9), 14);
            faultAt(due, "bars if " + many("(", 4) + many("[", 4) + "1" + many("]", 4) + "=1" + many(")", 4), NONE);
            faultAt(due, "bars if " + many("(", 4) + many("[", 5) + "1" + many("]", 5) + "=1" + many(")", 4), 16);
            faultAt(due, "bars if " + many("(", 9) + "1=1" + many(")", 9), 16);
            faultAt(due, "bars if " + many("(", 8) + "1=1" + many(")", 8) + "and" + many("(", 8) + "1=1" + many(")", 8), NONE);
            faultAt(due, "bars if " + many("not ", 97) + "1=1", NONE);
            faultAt(due, many(" ", 396) + "bars", NONE);
        });
        Due.test("12 law: each TEXT has its own PARTS and CLAUSES", due -> {
            FolioStair x = Due.stair(9);
            x.reader(1, 50);
            due.is("fifty", Due.law(x, "bears 1" + many("+1", 49)), 0);
            due.is("fifty again", Due.law(x, "bears 1" + many("+1", 48)), 1);
            due.is("one that can't be", Due.law(x, "bears 99;bears 99;bears"), -6);
            due.is("and again", Due.law(x, "bears 1;bears 2" + many("*1", 40)), 2);
            x.force(0);
            due.is("fifty bear", x.carries(0, 0), 1);
            x.force(1);
            due.is("less", x.carries(0, 0), 0);
            x.force(2);
            due.is("less", x.carries(0, 0), 0);
        });
        Due.test("12 law: six laws", due -> {
            FolioStair x = new FolioStair();
            for (int l = 0; l < 6; l++) due.is("law", Due.law(x, "bars"), l);
            due.is("seventh", Due.law(x, "bars"), -5);
            due.is("tape", x.count(6), 0);
            due.is("ahead of reading", Due.law(x, "nonsense"), -5);
            due.is("fault stays", x.fault(), NONE);
            due.is("tape", x.count(6), 0);
            due.is("laws", x.count(2), 6);
        });
        Due.test("13 fault stays till the next TEXT is read", due -> {
            FolioStair x = new FolioStair();
            Due.law(x, "bars x");
            due.is("fault", x.fault(), 5);
            Due.bytes(x, 1, 1, 0);
            x.row();
            due.is("fault", x.fault(), 5);
            Due.law(x, "bars");
            due.is("fault", x.fault(), NONE);
        });
        Due.test("14 force", due -> {
            FolioStair x = Due.stair(1);
            x.reader(1, 1);
            due.is("no law", x.force(0), -2);
            Due.law(x, "bars");
            Due.law(x, "bears 1");
            due.is("none yet", x.carries(0, 0), 1);
            due.is("force", x.force(0), NONE);
            due.is("barred", x.carries(0, 0), 0);
            due.is("force", x.force(1), 0);
            due.is("not barred", x.carries(0, 0), 1);
            due.is("2", x.force(2), -2);
            due.is("-2", x.force(-2), -2);
            due.is("still", x.count(12), 1);
            due.is("none", x.force(NONE), 1);
            due.is("none", x.force(NONE), NONE);
        });
        Due.test("15 carries: parts and sums", due -> {
            due.is("bears 49", under("bears 49"), 0);
            due.is("bears 50", under("bears 50"), 1);
            due.is("the last that holds", under("bears 50;bears 49"), 0);
            due.is("the last that holds", under("bears 49;bears 50;bears 1 if 1=2"), 1);
            due.is("any bars", under("bars;bears 99"), 0);
            due.is("bars does not hold", under("bars if 1=2"), 1);
            String all = "bars if not(reader=1 and tread=0 and thick=4 and level=4 and weight=50 and stride=5 and hour=9 and dust=3 and bears=60)";
            due.is("all words", under(all), 1);
            due.is("* ahead of +", under("bears 44+2*3"), 1);
            due.is("brackets", under("bars if [1+2]*3=9"), 0);
            due.is("from the left", under("bars if 9-3-2=4"), 0);
            due.is("from the left", under("bars if 9/2*2=8"), 0);
            due.is("cut towards 0", under("bars if [0-7]/2=0-3"), 0);
            due.is("below 0", under("bears 0-1"), 0);
            due.is("and ahead of or", under("bars if 1=1 or 1=1 and 1=2"), 0);
            due.is("not ahead of and", under("bars if not 1=2 and 1=2"), 1);
            due.is("not not", under("bars if not not 1=1"), 0);
            due.is("brackets of tests", under("bars if (1=1 or 1=1)and 1=2"), 1);
            due.is("<", under("bars if 2<2"), 1);
            due.is(">", under("bars if 2>2"), 1);
            due.is(">", under("bars if 3>2"), 0);
        });
        Due.test("15 carries: broken", due -> {
            due.is("divided by 0", under("bears 1;bears 1/0"), 0);
            due.is("what it bears without", under("bears 1/0"), 1);
            due.is("bars by a broken test", under("bars if 1/0=0"), 1);
            due.is("not of broken", under("bars if not 1/0=0"), 1);
            due.is("or asks only if it matters", under("bars if 1=1 or 1/0=0"), 0);
            due.is("or asks", under("bars if 1=2 or 1/0=0"), 1);
            due.is("broken ahead of or", under("bars if 1/0=0 or 1=1"), 1);
            due.is("and asks only if it matters", under("bars if not(1=2 and 1/0=0)"), 0);
            due.is("and skips to the next or", under("bars if 1=2 and 1/0=0 or 1=1"), 0);
            due.is("or skips all behind", under("bars if 1=1 or 1=2 or 1/0=0"), 0);
            due.is("its sum broken", under("bears 1/0 if 1=1"), 1);
            due.is("its test broken", under("bears 1 if 1/0=1"), 1);
            due.is("a thousand millions", under("bars if 1000*1000*1000=1000*1000*1000"), 0);
            due.is("beyond", under("bars if 1000*1000*1000+1>0"), 1);
            due.is("beyond on the way", under("bars if 1000*1000*1000+1-1>0"), 1);
            due.is("below", under("bars if 0-1000*1000*1000-1<0"), 1);
            due.is("just there", under("bars if 0-1000*1000*1000<0"), 0);
            due.is("far beyond", under("bars if 1000*1000*1000*1000*1000*1000*1000=0"), 1);
        });
        Due.test("15 carries: whom", due -> {
            FolioStair x = Due.stair(2, 2);
            x.reader(1, 99);
            due.is("as much", x.carries(0, 0), 1);
            x.put(0, 1, 98);
            due.is("less", x.carries(0, 0), 0);
            x.put(1, 3, 1);
            due.is("OUT, too", x.carries(1, 0), 1);
            for (int any : ANY) due.is("any", x.carries(any, 0) + x.carries(0, any), -2);
            due.is("2", x.carries(2, 0), NONE);
            due.is("1", x.carries(0, 1), NONE);
            Due.law(x, "bars if tread=1 and level=4 and reader=0");
            x.force(0);
            due.is("TREAD 1", x.carries(1, 0), 0);
            x.put(0, 1, 99);
            due.is("TREAD 0", x.carries(0, 0), 1);
            x.put(0, 0, 3);
            due.is("LEVEL 5", x.carries(1, 0), 1);
            Due.law(x, "bears 10;bears 99 if hour>9");
            x.force(1);
            due.is("hour 9", x.carries(1, 0), 0);
            x.terms(0, 10);
            due.is("hour 10", x.carries(1, 0), 1);
        });
    }

    private static void walks() {
        Due.test("16 comes", due -> {
            FolioStair x = Due.stair(3, 3, 3, 7);
            x.reader(3, 10);
            due.is("up to the gap", x.comes(0), 7);
            x.turn(0, 0, 7);
            due.is("all", x.comes(0), 15);
            x.put(2, 3, 1);
            due.is("the gap", x.comes(0), 3);
            x.put(2, 3, 0);
            x.put(1, 1, 9);
            due.is("one that does not carry", x.comes(0), 13);
            x.turn(0, 0, 2);
            due.is("none", x.comes(0), 0);
            due.is("no reader", x.comes(1), NONE);
            due.is("no reader", x.comes(-1), NONE);
            FolioStair y = new FolioStair();
            y.reader(1, 1);
            due.is("no treads", y.comes(0), 0);
        });
        Due.test("17 way", due -> {
            // LEVELS 2 4 6 8 10, STRIDE 4: to 8 by 4; to 10 by 2 6 ahead of 4 6, 4 8
            FolioStair x = Due.stair(2, 2, 2, 2, 2);
            x.reader(4, 10);
            due.is("steps", x.way(0, 3, NONE), 2);
            due.is("first", x.way(0, 3, 0), 1);
            due.is("last", x.way(0, 3, 1), 3);
            due.is("behind", x.way(0, 3, 2), NONE);
            due.is("steps", x.way(0, 4, NONE), 3);
            due.is("0", x.way(0, 4, 0), 0);
            due.is("1", x.way(0, 4, 1), 2);
            due.is("2", x.way(0, 4, 2), 4);
            x.put(0, 3, 1);
            due.is("0 then", x.way(0, 4, 0), 1);
            due.is("1 then", x.way(0, 4, 1), 2);
            x.put(2, 1, 1);
            due.is("round it", x.way(0, 4, 1), 3);
            due.is("to one that is OUT", x.way(0, 0, NONE), NONE);
            due.is("to one that does not carry", x.way(0, 2, NONE), NONE);
            due.is("i -2", x.way(0, 4, -2), NONE);
            for (int any : ANY) due.is("any", x.way(any, 0, NONE) + x.way(0, any, NONE) + x.way(0, 4, any), -3);
        });
    }

    private static void setsOfTreads() {
        Due.test("18 free", due -> {
            // LEVELS 2 4 6 8, STRIDE 4: needs TREAD 1, or 0 and 2
            FolioStair x = Due.stair(2, 2, 2, 2);
            x.reader(4, 10);
            due.is("most", x.free(0, 0), 2);
            due.is("which", x.free(0, 1), 5);
            due.is("ways", x.free(0, 2), 1);
            due.is("sets", x.free(0, 3), 5);
            x.put(0, 3, 1);
            due.is("most besides", x.free(0, 0), 1);
            due.is("which besides", x.free(0, 1), 4);
            due.is("sets besides", x.free(0, 3), 2);
            x.put(0, 3, 0);
            x.put(2, 1, 1);
            due.is("one that does not carry can be OUT", x.free(0, 1), 5);
            due.is("sets", x.free(0, 3), 4);
            x.put(3, 3, 1);
            due.is("the TOP is OUT", x.free(0, 0), NONE);
            due.is("which", x.free(0, 1), NONE);
            due.is("ways", x.free(0, 2), 0);
            due.is("sets", x.free(0, 3), 0);
            due.is("what 4", x.free(0, 4), NONE);
            due.is("what -1", x.free(0, -1), NONE);
            due.is("reader", x.free(1, 3), NONE);
            FolioStair y = new FolioStair();
            y.reader(1, 1);
            for (int w = 0; w < 4; w++) due.is("no treads", y.free(0, w), NONE);
        });
        Due.test("18 free: the lowest of ways", due -> {
            // LEVELS 1 2 3 4, STRIDE 3: to 4 from 1, 2 or 3
            FolioStair x = Due.stair(1, 1, 1, 1);
            x.reader(3, 10);
            due.is("most", x.free(0, 0), 2);
            due.is("lowest", x.free(0, 1), 3);
            due.is("ways", x.free(0, 2), 3);
            due.is("sets", x.free(0, 3), 7);
        });
        Due.test("19 cut", due -> {
            FolioStair x = Due.stair(2, 2, 2, 2);
            x.reader(4, 10);
            due.is("how many", x.cut(0, 0), 2);
            due.is("which", x.cut(0, 1), 3);
            due.is("ways", x.cut(0, 2), 2);
            x.put(1, 3, 1);
            due.is("one then", x.cut(0, 0), 1);
            due.is("which", x.cut(0, 1), 1);
            due.is("ways", x.cut(0, 2), 2);
            x.put(0, 3, 1);
            due.is("one does not come", x.cut(0, 0), 0);
            due.is("which", x.cut(0, 1), 0);
            due.is("ways", x.cut(0, 2), 1);
            x.turn(0, 0, 8);
            due.is("none cuts it off", x.cut(0, 0), NONE);
            due.is("none cuts it off", x.cut(0, 1), NONE);
            due.is("no way", x.cut(0, 2), 0);
            due.is("what", x.cut(0, 3), NONE);
            due.is("what", x.cut(0, -1), NONE);
            due.is("reader", x.cut(-1, 0), NONE);
            FolioStair y = new FolioStair();
            y.reader(1, 1);
            for (int w = 0; w < 3; w++) due.is("no treads", y.cut(0, w), NONE);
        });
        Due.test("20 boards", due -> {
            FolioStair x = Due.stair(2, 2, 2, 2);
            x.reader(4, 10);
            due.is("none is needed", x.boards(0, 0), 0);
            due.is("which", x.boards(0, 1), 0);
            due.is("ways", x.boards(0, 2), 1);
            for (int t = 0; t < 4; t++) x.put(t, 3, 1);
            due.is("the TOP, too", x.boards(0, 0), 2);
            due.is("which", x.boards(0, 1), 10);
            due.is("ways", x.boards(0, 2), 1);
            x.turn(0, 0, 6);
            due.is("lowest", x.boards(0, 1), 9);
            due.is("ways", x.boards(0, 2), 3);
            x.turn(0, 0, 1);
            due.is("not with all", x.boards(0, 0), NONE);
            due.is("not with all", x.boards(0, 1), NONE);
            due.is("no way", x.boards(0, 2), 0);
            x.turn(0, 0, 8);
            x.put(3, 1, 9);
            due.is("the TOP does not carry", x.boards(0, 0), NONE);
            due.is("what", x.boards(0, 3), NONE);
            due.is("what", x.boards(0, -1), NONE);
            due.is("reader", x.boards(9, 0), NONE);
            FolioStair y = new FolioStair();
            y.reader(1, 1);
            for (int w = 0; w < 3; w++) due.is("no treads", y.boards(0, w), NONE);
        });
    }

    private static void askings() {
        Due.test("21 ask, 22 drop", due -> {
            FolioStair x = Due.stair(2, 2);
            x.reader(9, 1);
            for (int a = 0; a < 7; a++) due.is("ask", x.ask(0, a % 2), a);
            due.is("no room", x.ask(0, 0), -5);
            due.is("no tread ahead of room", x.ask(0, 2), -2);
            due.is("no reader", x.ask(1, 0), -2);
            due.is("below", x.ask(-1, 0) + x.ask(0, -1), -4);
            due.is("drop 7", x.drop(7), -2);
            due.is("drop -1", x.drop(-1), -2);
            due.is("drop", x.drop(0), 6);
            due.is("moved up", x.day(0), 3);
            due.is("all", x.drop(5) + x.drop(0) + x.drop(0) + x.drop(0) + x.drop(0) + x.drop(0), 15);
            due.is("none", x.drop(0), -2);
            due.is("again", x.ask(0, 1), 0);
            due.is("day", x.day(2), 2);
        });
        Due.test("23 day, 24 stands", due -> {
            // LEVELS 3 6 9, STRIDE 3
            FolioStair x = Due.stair(3, 3, 3);
            x.reader(3, 10);
            x.reader(3, 10);
            x.put(0, 3, 0);
            due.is("none asked", x.day(0), 0);
            x.ask(0, 1);
            due.is("he goes to TREAD 0", x.stands(0), 0);
            x.ask(1, 0);
            due.is("a BOOK that somebody stands on", x.day(0), 1);
            x.ask(1, 0);
            x.ask(0, 0);
            due.is("himself, too", x.day(0), 1);
            due.is("OUT then", x.day(2), 2);
            due.is("the real one is in", x.count(4), 0);
            due.is("nobody STRANDED", x.day(1), 0);
            due.is("ground", x.stands(1), 100);
            due.is("what 3", x.day(3), NONE);
            due.is("what -1", x.day(-1), NONE);
            due.is("reader 2", x.stands(2), NONE);
            due.is("reader -1", x.stands(-1), NONE);
        });
        Due.test("23 day: by the BOOK that is wanted", due -> {
            // reader 0 goes over TREAD 0, which is his way, to 1 and takes 2, then from 1 takes 0: he can't come down
            FolioStair x = Due.stair(3, 3, 3);
            x.reader(3, 10);
            x.ask(0, 2);
            x.ask(0, 0);
            due.is("served", x.day(0), 3);
            due.is("stands", x.stands(0), 1);
            due.is("stranded", x.day(1), 1);
            due.is("out", x.day(2), 5);
            x.terms(1, 3);
            due.is("down by STRIDE and DROP", x.day(1), 0);
            x.terms(1, 2);
            due.is("not quite", x.day(1), 1);
            x.put(1, 3, 1);
            due.is("no place left for TREAD 2", x.day(0), 2);
            due.is("out as told and then", x.day(2), 3);
        });
        Due.test("23 day: two are STRANDED", due -> {
            // LEVELS 3 6 7 10: both stand on TREAD 1, and 6 is too high above the GROUND without TREAD 0
            FolioStair x = Due.stair(3, 3, 1, 3);
            x.reader(3, 10);
            x.reader(4, 10);
            x.reader(9, 10);
            x.ask(0, 2);
            x.ask(1, 3);
            x.ask(2, 0);
            due.is("served", x.day(0), 7);
            due.is("one", x.stands(0), 1);
            due.is("the other beside him", x.stands(1), 1);
            due.is("stranded", x.day(1), 3);
            // all three only with TREAD 0 last
            due.is("BEST", x.best(0) * 10 + x.best(1), 32);
            due.is("first", x.best(3) * 100 + x.best(4) * 10 + x.best(5), 12);
            due.is("orders", x.best(2), 2);
        });
        Due.test("23 day: the nearest, then the lowest", due -> {
            // LEVELS 1 2 3 4 5, STRIDE 2: TREAD 3 (4) from LEVELS 2, 3 and 5; 2 is one STEP off
            FolioStair x = Due.stair(1, 1, 1, 1, 1);
            x.reader(2, 10);
            x.ask(0, 3);
            due.is("stands", x.stands(0), 1);
            x.put(1, 3, 1);
            due.is("two STEPS", x.stands(0), 2);
            x.put(2, 3, 1);
            due.is("from above it, by it", x.day(0), 0);
            FolioStair y = Due.stair(1, 1, 1);
            y.reader(2, 10);
            y.put(0, 3, 1);
            y.ask(0, 1);
            due.is("from the GROUND", y.stands(0), 100);
            due.is("served", y.day(0), 1);
        });
        Due.test("23 day: a tread that does not carry", due -> {
            FolioStair x = Due.stair(3, 3, 3);
            x.reader(6, 50);
            x.put(1, 1, 49);
            x.ask(0, 1);
            due.is("its BOOK can be had", x.day(0), 1);
            due.is("from the GROUND", x.stands(0), 100);
            x.ask(0, 2);
            due.is("from TREAD 0", x.stands(0), 0);
            due.is("both", x.day(0), 3);
        });
    }

    private static void bestAndBuilt() {
        Due.test("25 best", due -> {
            FolioStair x = Due.stair(3, 3, 3);
            due.is("no askings", x.best(0), 0);
            due.is("no askings", x.best(1), 0);
            due.is("one order", x.best(2), 1);
            due.is("no row", x.best(3), NONE);
            x.reader(3, 10);
            // only with TREAD 2 first, from TREAD 1, is there a second one: TREAD 0, and no way down then
            x.ask(0, 0);
            x.ask(0, 1);
            x.ask(0, 2);
            due.is("served", x.best(0), 2);
            due.is("stranded", x.best(1), 1);
            due.is("day as told", x.day(0), 1);
            due.is("orders", x.best(2), 2);
            due.is("first", x.best(3), 2);
            due.is("second", x.best(4), 0);
            due.is("third", x.best(5), 1);
            due.is("behind", x.best(6), NONE);
            for (int any : ANY) due.is("any", x.best(any), NONE);
            x.drop(1);
            due.is("asked anew after a change", x.best(5), NONE);
        });
        Due.test("25 best: fewest STRANDED", due -> {
            // LEVELS 2 6 9; readers 0 and 1 want TREAD 2, from TREAD 1: only reader 1 comes down without TREAD 0
            FolioStair x = Due.stair(2, 4, 3);
            x.reader(4, 10);
            x.reader(6, 10);
            x.reader(40, 10);
            x.ask(0, 2);
            x.ask(1, 2);
            x.ask(2, 0);
            due.is("as told", x.day(0), 5);
            due.is("as told", x.day(1), 1);
            due.is("served", x.best(0), 2);
            due.is("stranded", x.best(1), 0);
            due.is("orders", x.best(2), 4);
            due.is("first", x.best(3) * 100 + x.best(4) * 10 + x.best(5), 102);
        });
        Due.test("25 best: as the document counts", due -> {
            FolioStair x = Due.stair(3, 3);
            x.reader(3, 10);
            x.reader(3, 10);
            x.ask(0, 0);
            x.ask(1, 1);
            // TREAD 1 first: reader 1 stands on TREAD 0, whose BOOK stays; TREAD 0 first: TREAD 1 is out of reach
            due.is("one", x.best(0), 1);
            due.is("none stranded", x.best(1), 0);
            due.is("both orders", x.best(2), 2);
            due.is("first", x.best(3), 0);
            due.is("then", x.best(4), 1);
        });
        Due.test("26 built", due -> {
            FolioStair x = new FolioStair();
            due.is("no treads", x.built(0), 0);
            due.is("no treads", x.built(2), 1);
            due.is("no row", x.built(3), NONE);
            x.tread(9, 99);
            x.tread(2, 99);
            x.tread(1, 99);
            x.reader(3, 10);
            x.ask(0, 1);
            due.is("as told", x.day(0), 0);
            due.is("served", x.built(0), 1);
            due.is("stranded", x.built(1), 0);
            // 2 lowest (from the GROUND), or 1 2 9 (LEVEL 3); 9 lowest never
            due.is("ways", x.built(2), 3);
            due.is("row", x.built(3) * 100 + x.built(4) * 10 + x.built(5), 102);
            due.is("behind", x.built(6), NONE);
            for (int any : ANY) due.is("any", x.built(any), NONE);
            x.put(1, 3, 1);
            due.is("OUT goes with the BOOK", x.built(0), 0);
            due.is("all ways alike", x.built(2), 6);
            due.is("the first", x.built(3) * 100 + x.built(4) * 10 + x.built(5), 12);
            x.put(1, 3, 0);
            due.is("anew", x.built(2), 3);
            Due.law(x, "bars if tread=0 and dust=5");
            x.put(2, 2, 5);
            x.force(0);
            due.is("the LAW is asked of the BOOK there", x.built(2), 3);
            for (int t = 3; t < 6; t++) x.tread(1, 99);
            due.is("six", x.built(0), 1);
            x.tread(1, 1);
            due.is("seven", x.built(0), NONE);
        });
        Due.test("26 built: the LAW where the BOOK is", due -> {
            // BOOKS 2 2; TREAD 1's BOOK from TREAD 0, STRIDE 2; a BOOK with DUST does not carry on TREAD 0
            FolioStair x = Due.stair(2, 2);
            x.reader(2, 10);
            x.put(0, 2, 1);
            x.ask(0, 1);
            Due.law(x, "bars if tread=0 and dust>0;bars if level<2 or thick<2 or bears<99");
            x.force(0);
            due.is("as told", x.day(0), 0);
            due.is("built", x.built(0), 1);
            due.is("row", x.built(3), 1);
            due.is("ways", x.built(2), 1);
        });
        Due.test("26 built: the LAW's LEVEL", due -> {
            // BOOKS 1 2 3, all in reach: only a BOOK at LEVEL 3 above another one carries
            FolioStair x = Due.stair(1, 2, 3);
            x.reader(3, 10);
            x.ask(0, 2);
            Due.law(x, "bars if not level=3;bars if tread=0");
            x.force(0);
            due.is("as told", x.day(0), 1);
            x.turn(0, 0, 2);
            due.is("never", x.built(0), 0);
            x.turn(0, 0, 3);
            due.is("some", x.built(0), 1);
            // BOOK 2 lowest, or above both others, from TREAD 1 at LEVEL 3
            due.is("ways", x.built(2), 4);
            due.is("first", x.built(3) * 100 + x.built(4) * 10 + x.built(5), 12);
        });
        Due.test("27 build", due -> {
            FolioStair x = new FolioStair();
            due.is("no treads", x.build(), 0);
            x.tread(9, 98);
            x.tread(2, 97);
            x.tread(1, 96);
            x.put(2, 2, 7);
            x.put(0, 3, 1);
            x.reader(3, 10);
            x.ask(0, 1);
            due.is("elsewhere", x.build(), 2);
            due.is("thick", x.of(0, 0), 2);
            due.is("bears", x.of(1, 1), 98);
            due.is("out", x.of(1, 3), 1);
            due.is("in", x.of(0, 3), 0);
            due.is("dust", x.of(2, 2), 7);
            due.is("asking went along", x.day(2), 3);
            due.is("again", x.build(), 0);
            for (int t = 3; t < 7; t++) x.tread(1, 1);
            due.is("seven", x.build(), -3);
            due.is("status", x.status(), -3);
        });
        Due.test("28 swap", due -> {
            FolioStair x = new FolioStair();
            x.tread(9, 98);
            x.tread(2, 97);
            x.tread(1, 96);
            x.put(0, 2, 7);
            x.put(0, 3, 1);
            x.reader(40, 10);
            x.ask(0, 0);
            x.ask(0, 2);
            x.ask(0, 1);
            due.is("swap", x.swap(0, 2), 0);
            int[] there = {9, 98, 7, 1, 12};
            for (int w = 0; w < 5; w++) due.is("of", x.of(2, w), there[w]);
            due.is("other", x.of(0, 0), 1);
            due.is("askings", x.day(0), 6);
            x.drop(2);
            due.is("asking 1 is of TREAD 0", x.day(2), 5);
            due.is("same", x.swap(1, 1), -3);
            due.is("none", x.swap(3, 3), -2);
            due.is("none", x.swap(0, -1), -2);
            due.is("none", x.swap(3, 0), -2);
        });
    }

    private static void tracksSortedToes() {
        Due.test("29 tracks", due -> {
            FolioStair x = Due.stair(2, 2, 2);
            x.reader(2, 1);
            x.reader(4, 1);
            x.reader(6, 1);
            x.reader(2, 1);
            x.reader(1, 1);
            // WAYS: 0 1 2 = 7; 0 2 = 5; 2 = 4; 7; none
            due.is("7: with reader 0 or 3", x.tracks(7, 0), 12);
            due.is("lowest", x.tracks(7, 1), 1);
            due.is("in all", x.tracks(7, 2), 0);
            due.is("5", x.tracks(5, 0), 2);
            due.is("5 lowest", x.tracks(5, 1), 2);
            due.is("5 in all", x.tracks(5, 2), 2);
            due.is("4", x.tracks(4, 0), 1);
            due.is("4", x.tracks(4, 1), 4);
            due.is("nobody", x.tracks(0, 0), 1);
            due.is("nobody", x.tracks(0, 1), 0);
            due.is("nobody", x.tracks(0, 2), 0);
            due.is("6", x.tracks(6, 0), 0);
            due.is("6", x.tracks(6, 1), NONE);
            due.is("6", x.tracks(6, 2), NONE);
            due.is("bits", x.tracks(8, 0), NONE);
            due.is("bits", x.tracks(-1, 0), NONE);
            due.is("what", x.tracks(7, 3), NONE);
            due.is("what", x.tracks(7, -1), NONE);
            for (int any : ANY) due.is("any", x.tracks(any, 0), NONE);
            FolioStair y = new FolioStair();
            y.reader(1, 1);
            due.is("no treads", y.tracks(0, 0), 1);
            due.is("no treads", y.tracks(0, 2), 0);
            due.is("no treads", y.tracks(1, 0), NONE);
        });
        Due.test("30 sorted", due -> {
            FolioStair x = Due.stair(1, 2, 3, 3, 1, 2);
            due.is("moved", x.sorted(NONE), 3);
            int[] stay = {2, 3, 4, NONE};
            for (int i = 0; i < 4; i++) due.is("stay " + i, x.sorted(i), stay[i]);
            due.is("-2", x.sorted(-2), NONE);
            for (int any : ANY) due.is("any", x.sorted(any), NONE);
            FolioStair y = Due.stair(5, 5, 5);
            y.put(1, 3, 1);
            due.is("alike is sorted", y.sorted(NONE), 0);
            due.is("OUT, too", y.sorted(2), 2);
            FolioStair z = new FolioStair();
            due.is("no treads", z.sorted(NONE), 0);
            due.is("no treads", z.sorted(0), NONE);
            FolioStair u = Due.stair(1, 2, 3);
            due.is("rises", u.sorted(NONE), 2);
            due.is("first", u.sorted(0), 0);
            due.is("no more", u.sorted(1), NONE);
        });
        Due.test("31 toe, 32 lift", due -> {
            FolioStair x = new FolioStair();
            due.is("none", x.lift(), 0);
            for (int t = 1; t <= 8; t++) due.is("toe", x.toe(t), t);
            due.is("no room", x.toe(1), -5);
            due.is("number first", x.toe(0), -1);
            due.is("ten", x.toe(10), -1);
            due.is("lift", x.lift(), 8);
            due.is("status is not of lift", x.status(), -1);
            due.is("again", x.lift(), 0);
            due.is("toe", x.toe(9), 1);
            due.is("count", x.count(5), 1);
        });
        Due.test("33 places", due -> {
            FolioStair x = Due.stair(3, 5, 4, 9, 4);
            due.is("without TOES", x.places(0, NONE), NONE);
            x.toe(4);
            due.is("exactly", x.places(0, NONE), 2);
            due.is("0", x.places(0, 0), 2);
            due.is("1", x.places(0, 1), 4);
            due.is("2", x.places(0, 2), NONE);
            due.is("off 1", x.places(1, NONE), 4);
            due.is("off 8", x.places(8, NONE), 5);
            x.toe(4);
            due.is("two, the last can't be", x.places(1, NONE), 2);
            due.is("0", x.places(1, 0), 0);
            due.is("1", x.places(1, 1), 1);
            due.is("each by itself", x.places(5, NONE), 4);
            due.is("off 9", x.places(9, NONE), NONE);
            due.is("off -1", x.places(-1, NONE), NONE);
            due.is("i -2", x.places(1, -2), NONE);
            x.put(0, 3, 1);
            due.is("OUT ones, too", x.places(1, 0), 0);
            for (int t = 0; t < 4; t++) x.toe(4);
            due.is("more TOES than TREADS", x.places(8, NONE), 0);
            due.is("none", x.places(8, 0), NONE);
            for (int any : ANY) due.is("any", x.places(any, 0) + x.places(0, any), -2);
        });
    }

    private static void daysAndImages() {
        Due.test("34 days, 35 drawn", due -> {
            FolioStair x = Due.stair(3, 3);
            due.is("no readers", x.days(0, 2), 0);
            due.is("none served", x.drawn(1, 0), 0);
            due.is("none stranded", x.drawn(1, 1), 0);
            due.is("none out", x.drawn(1, 2), 0);
            x.reader(6, 10);
            // the DRAW of READERS comes first
            long s = 5;
            int first = NONE;
            for (int k = 0; k < 2; k++) {
                s = (s * 1103 + 12345) % 1000003;
                first = (int) (s % 2);
            }
            due.is("days", x.days(5, 1) >= 1 ? 1 : 0, 1);
            due.yes("the first one is OUT", (x.drawn(0, 2) >> first & 1) == 1);
            due.is("bits", Integer.bitCount(x.drawn(0, 2)), x.drawn(0, 0));
            due.is("only one day", x.drawn(1, 0), NONE);
            due.is("as told", x.count(4), 0);
            int all = x.days(1000000, 20);
            int sum = 0;
            for (int d = 0; d < 20; d++) sum += x.drawn(d, 0);
            due.is("in all", sum, all);
            due.is("21st", x.drawn(20, 0), NONE);
            int[][] bad = {{-1, 1}, {1000001, 1}, {0, 0}, {0, 21}, {Integer.MIN_VALUE, 5}, {5, Integer.MAX_VALUE}};
            for (int[] b : bad) due.is("days", x.days(b[0], b[1]), -1);
            due.is("kept", x.drawn(19, 0) >= 0 ? 1 : 0, 1);
            due.is("what 3", x.drawn(0, 3), NONE);
            due.is("what -1", x.drawn(0, -1), NONE);
            for (int any : ANY) due.is("any", x.drawn(any, 0), NONE);
        });
        Due.test("34 days: the DRAWS of two days", due -> {
            // SEED 0 draws READER and TREAD: 11 12 00 11 01 11, 01 11 00 10 10 11; reader 1 gets at TREAD 0 alone
            FolioStair x = Due.stair(1, 1, 1, 1, 1);
            x.reader(40, 50);
            x.reader(1, 99);
            for (int t = 0; t < 5; t++) x.put(t, 1, 60);
            due.is("in all", x.days(0, 2), 4);
            for (int d = 0; d < 2; d++) {
                due.is("served", x.drawn(d, 0), 2);
                due.is("stranded", x.drawn(d, 1), 0);
                due.is("out", x.drawn(d, 2), 3);
            }
            x.turn(0, 1, 61);
            x.turn(1, 1, 1);
            // carried now, reader 1 takes TREAD 1 from TREAD 0, and stands there
            due.is("one", x.days(0, 1), 1);
            due.is("out", x.drawn(0, 2), 2);
        });
        Due.test("35 drawn: STRANDED", due -> {
            // SEED 12 draws TREADS 2, 0 first
            FolioStair x = Due.stair(3, 3, 3);
            x.reader(3, 10);
            due.is("served", x.days(12, 1), 2);
            due.is("stranded", x.drawn(0, 1), 1);
            due.is("out", x.drawn(0, 2), 5);
        });
        Due.test("34 days: no askings are drawn without TREADS; OUT ones stay so", due -> {
            FolioStair x = new FolioStair();
            x.reader(1, 1);
            due.is("days", x.days(3, 3), 0);
            due.is("kept", x.drawn(2, 0), 0);
            due.is("three", x.drawn(3, 0), NONE);
            FolioStair y = Due.stair(1, 1, 1);
            y.put(1, 3, 1);
            due.is("without readers", y.days(3, 1), 0);
            due.is("OUT", y.drawn(0, 2), 2);
        });
        Due.test("36 image, 37 back", due -> {
            FolioStair x = Due.stair(3, 4);
            x.reader(5, 30);
            x.terms(0, 3);
            x.terms(1, 4);
            Due.law(x, "bears 1");
            Due.law(x, "bars");
            x.force(0);
            x.ask(0, 1);
            x.toe(7);
            x.put(1, 3, 1);
            due.is("image", x.image(0), 0);
            due.is("not kept", x.back(1), -2);
            due.is("bad", x.image(2) + x.image(-1) + x.back(2) + x.back(-1), -4);
            due.is("refused", x.count(7), 4);
            x.put(0, 0, 9);
            x.put(1, 3, 0);
            x.tread(5, 5);
            x.reader(1, 1);
            x.turn(0, 0, 40);
            x.terms(0, 20);
            x.terms(1, 0);
            x.force(1);
            x.ask(0, 0);
            x.toe(8);
            Due.law(x, "bears 2;");
            Due.text(x, "abcd");
            due.is("second image", x.image(1), 0);
            due.is("back", x.back(0), 0);
            due.is("status", x.status(), 0);
            int[] then = {2, 1, 2, 1, 1, 1, 4, 4, 1, 0, 0, 1, 0, 3, 4};
            for (int w = 0; w < then.length; w++) due.is("count " + w, x.count(w), then[w]);
            due.is("thick", x.of(0, 0), 3);
            due.is("out", x.of(1, 3), 1);
            due.is("fault is not kept", x.fault(), 8);
            due.is("the law in force", x.carries(0, 0), 0);
            due.is("stride", x.turn(0, 0, 6), 5);
            due.is("asking", x.day(0), 0);
            due.is("to the other", x.back(1), 0);
            due.is("thick", x.of(0, 0), 9);
            due.is("treads", x.count(0), 3);
            due.is("readers", x.count(1), 2);
            due.is("stays", x.back(0), 0);
            due.is("stays", x.back(1), 0);
            due.is("image not changed by what came", x.turn(0, 0, 1), 40);
        });
        Due.test("36 image: ASKINGS and TOES as they were", due -> {
            FolioStair x = Due.stair(3, 4);
            x.reader(40, 30);
            x.ask(0, 1);
            x.toe(4);
            x.image(1);
            x.drop(0);
            x.ask(0, 0);
            x.lift();
            x.toe(3);
            due.is("asking now", x.day(2), 1);
            due.is("toe now", x.places(0, 0), 0);
            x.best(0);
            x.built(0);
            x.back(1);
            due.is("asking then", x.day(2), 2);
            due.is("toe then", x.places(0, 0), 1);
        });
        Due.test("25 best, 26 built: anew after each change", due -> {
            FolioStair x = Due.stair(3, 3);
            x.reader(3, 50);
            x.ask(0, 1);
            due.is("best", x.best(0) + x.built(0), 2);
            x.turn(0, 0, 2);
            due.is("turn", x.best(0) + x.built(0), 0);
            x.turn(0, 0, 3);
            x.put(0, 3, 1);
            due.is("put", x.best(0), 0);
            x.put(0, 3, 0);
            Due.law(x, "bars");
            x.best(0);
            x.built(0);
            x.force(0);
            due.is("force", x.best(0), 0);
            due.is("force", x.built(2), 1);
            x.image(0);
            x.force(NONE);
            x.best(0);
            x.back(0);
            due.is("back", x.best(0), 0);
            Due.law(x, "bars if hour=9");
            x.force(1);
            x.best(0);
            x.terms(0, 10);
            due.is("terms", x.best(0), 1);
            x.swap(0, 1);
            due.is("swap", x.best(0), 1);
            x.drop(0);
            due.is("drop", x.best(0), 0);
            x.best(3);
            x.ask(0, 0);
            due.is("ask", x.best(3), 0);
        });
        Due.test("36 image: laws, torn and days", due -> {
            FolioStair x = Due.stair(3, 4);
            x.reader(5, 30);
            x.image(0);
            Due.law(x, "bars");
            x.days(7, 2);
            Due.bytes(x, 1);
            x.row();
            x.back(0);
            due.is("laws", x.count(2), 0);
            due.is("days are not kept", x.drawn(1, 0) >= 0 ? 1 : 0, 1);
            due.is("torn is not kept", x.torn(), 1);
            due.is("another law 0", Due.law(x, "bears 99"), 0);
            x.force(0);
            x.image(1);
            x.back(0);
            Due.law(x, "bars");
            x.force(0);
            due.is("barred", x.carries(0, 0), 0);
            x.back(1);
            due.is("not barred", x.carries(0, 0), 1);
            x.image(0);
            due.is("an image can be made anew", x.back(0), 0);
            due.is("force", x.count(12), 0);
        });
    }

    private static void counts() {
        Due.test("38 count", due -> {
            FolioStair x = Due.stair(1, 2, 3);
            x.put(0, 3, 1);
            x.put(2, 3, 1);
            x.reader(1, 1);
            x.ask(0, 0);
            x.ask(0, 0);
            x.toe(1);
            x.tread(0, 0);
            x.turn(5, 0, 1);
            x.turn(5, 0, 1);
            x.swap(1, 1);
            x.swap(1, 1);
            x.swap(1, 1);
            for (int t = 0; t < 13; t++) x.tread(1, 1);
            for (int t = 0; t < 5; t++) x.row();
            Due.law(x, "bars");
            x.force(0);
            x.feed(0, 0, 0, 0, 0);
            x.terms(0, 17);
            x.terms(1, 2);
            int[] all = {12, 1, 1, 2, 2, 1, 20, 1, 2, 3, 4, 5, 0, 17, 2};
            for (int w = 0; w < all.length; w++) due.is("count " + w, x.count(w), all[w]);
            due.is("15", x.count(15), NONE);
            due.is("-1", x.count(-1), NONE);
            for (int any : ANY) due.is("any", x.count(any), NONE);
        });
        Due.test("38 count: what answers NONE is not refused", due -> {
            FolioStair x = new FolioStair();
            x.of(0, 0);
            x.end(1);
            x.carries(0, 0);
            x.comes(0);
            x.way(0, 0, 0);
            x.free(0, 0);
            x.cut(0, 0);
            x.boards(0, 0);
            x.day(9);
            x.stands(0);
            x.best(99);
            x.built(99);
            x.tracks(1, 0);
            x.sorted(9);
            x.places(0, 0);
            x.drawn(0, 0);
            for (int w = 7; w < 12; w++) due.is("count " + w, x.count(w), 0);
            due.is("status", x.status(), 0);
        });
        Due.test("39 status: 0 behind each that was not REFUSED", due -> {
            FolioStair x = Due.stair(3, 4);
            x.swap(0, 0);
            due.is("reader", x.reader(5, 5) + x.status(), 0);
            x.swap(0, 0);
            due.is("put", x.put(0, 0, 3) + x.status(), 3);
            x.swap(0, 0);
            due.is("turn", x.turn(0, 0, 5) + x.status(), 5);
            x.swap(0, 0);
            due.is("terms", x.terms(0, 9) + x.status(), 9);
            x.swap(0, 0);
            due.is("law", Due.law(x, "bars") + x.status(), 0);
            x.swap(0, 0);
            due.is("force", x.force(0) + x.status(), -1);
            x.swap(0, 0);
            due.is("ask", x.ask(0, 0) + x.status(), 0);
            x.swap(0, 0);
            due.is("drop", x.drop(0) + x.status(), 0);
            x.swap(0, 0);
            due.is("swap", x.swap(0, 1) + x.status(), 0);
            x.swap(0, 0);
            due.is("toe", x.toe(3) + x.status(), 1);
            x.swap(0, 0);
            due.yes("days", x.days(3, 1) >= 0 && x.status() == 0);
            x.swap(0, 0);
            Due.bytes(x, 0);
            due.is("text leaves it", x.status(), -3);
            due.is("row", x.row() + x.status(), 0);
            x.swap(0, 0);
            due.is("image", x.image(0) + x.status(), 0);
            x.swap(0, 0);
            due.is("build", x.build() >= 0 ? x.status() : 1, 0);
        });
        Due.test("39 status", due -> {
            FolioStair x = new FolioStair();
            due.is("tread", x.tread(0, 1) * 10 + x.status(), -11);
            due.is("good", x.tread(3, 50) * 10 + x.status(), 0);
            due.is("put", x.put(1, 0, 1) * 10 + x.status(), -22);
            due.is("reader", x.reader(0, 1) * 10 + x.status(), -11);
            due.is("good", x.reader(5, 5) * 10 + x.status(), 0);
            due.is("turn", x.turn(1, 0, 1) * 10 + x.status(), -22);
            due.is("terms", x.terms(2, 0) * 10 + x.status(), -11);
            due.is("row", x.row() * 10 + x.status(), -66);
            due.is("of and the others leave it", x.of(9, 9) + x.count(0) + x.fault() + x.torn() + x.status(), -7);
            due.is("law", x.law() * 10 + x.status(), -66);
            due.is("force", x.force(0) * 10 + x.status(), -22);
            due.is("force none", x.force(NONE) * 10 + x.status(), -10);
            due.is("ask", x.ask(9, 9) * 10 + x.status(), -22);
            due.is("drop", x.drop(9) * 10 + x.status(), -22);
            due.is("feed leaves it", x.feed(0, 0, 0, 0, 0) + x.status(), 18);
            due.is("build", x.build() * 10 + x.status(), 0);
            due.is("swap", x.swap(0, 0) * 10 + x.status(), -33);
            due.is("toe", x.toe(0) * 10 + x.status(), -11);
            due.is("good toe", x.toe(1) * 10 + x.status(), 10);
            due.is("days", x.days(0, 0) * 10 + x.status(), -11);
            due.is("lift leaves it", x.lift() * 10 + x.status(), 9);
            due.is("image", x.image(0) * 10 + x.status(), 0);
            due.is("image", x.image(9) * 10 + x.status(), -11);
            due.is("back", x.back(1) * 10 + x.status(), -22);
            due.is("back", x.back(0) * 10 + x.status(), 0);
        });
    }
}
