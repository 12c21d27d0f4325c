/** A test for each sentence that names a boundary case: promises 23 to 27, 34 and 35, and what it is to be SERVED. */
final class BoundaryDays {
    private static final int NONE = -1;
    private static final int GROUND = 100;
    private static final int LOWEST = Integer.MIN_VALUE;
    private static final int HIGHEST = Integer.MAX_VALUE;

    static void run() {
        day();
        served();
        whereFrom();
        nearest();
        stranded();
        stands();
        best();
        bestTies();
        built();
        build();
        days();
        draws();
        drawn();
    }

    private static void dayIs(Due due, FolioStair x, int served, int stranded, int out) {
        due.is("SERVED", x.day(0), served);
        due.is("STRANDED", x.day(1), stranded);
        due.is("OUT", x.day(2), out);
    }

    private static void day() {
        Due.test("23 nothing asked, nobody there", due -> {
            dayIs(due, new FolioStair(), 0, 0, 0);
            dayIs(due, Due.stair(1, 1), 0, 0, 0);
            dayIs(due, BoundaryWalks.walked(1, 1), 0, 0, 0);
        });
        Due.test("23 TREADS that are OUT then: those that were, too", due -> {
            FolioStair x = BoundaryWalks.walked(40, 1, 1, 1);
            x.put(0, 3, 1);
            dayIs(due, x, 0, 0, 1);
            x.ask(0, 2);
            dayIs(due, x, 1, 0, 5);
        });
        Due.test("23 NONE for others", due -> {
            FolioStair x = BoundaryWalks.walked(1, 1);
            for (int bad : new int[] {-1, 3, 4, LOWEST, HIGHEST}) due.is("day " + bad, x.day(bad), NONE);
            due.is("no refusal", x.status(), 0);
        });
        Due.test("23 as told: nothing is changed by it", due -> {
            FolioStair x = BoundaryWalks.walked(40, 1, 1);
            x.ask(0, 0);
            for (int k = 0; k < 3; k++) dayIs(due, x, 1, 0, 1);
            due.is("in", x.of(0, 3), 0);
        });
        Due.test("23 seven ASKINGS, six READERS, twelve TREADS", due -> {
            FolioStair x = Due.stair(1, 1, 1, 1, 1, 1, 1, 1, 1, 1, 1, 1);
            for (int r = 0; r < 6; r++) x.reader(40, 1);
            for (int a = 0; a < 7; a++) x.ask(a % 6, 11 - a);
            dayIs(due, x, 127, 0, 4095 - 31);
        });
    }

    private static void served() {
        Due.test("23 if that BOOK is in", due -> {
            FolioStair x = BoundaryWalks.walked(40, 1, 1);
            x.ask(0, 0);
            x.put(0, 3, 1);
            dayIs(due, x, 0, 0, 1);
        });
        Due.test("23 the BOOK is OUT then: the second who wants it", due -> {
            FolioStair x = BoundaryWalks.walked(40, 1, 1);
            x.reader(40, 1);
            x.ask(0, 0);
            x.ask(1, 0);
            x.ask(0, 0);
            dayIs(due, x, 1, 0, 1);
        });
        Due.test("23 nobody stands on it", due -> {
            // LEVELS 3 6: READER 0 takes TREAD 1 from TREAD 0
            FolioStair x = BoundaryWalks.walked(3, 3, 3);
            x.reader(3, 1);
            x.ask(0, 1);
            x.ask(1, 0);
            dayIs(due, x, 1, 0, 2);
            x.drop(0);
            dayIs(due, x, 1, 0, 1);
        });
        Due.test("23 nobody, not himself either", due -> {
            FolioStair x = BoundaryWalks.walked(3, 3, 3);
            x.ask(0, 1);
            x.ask(0, 0);
            dayIs(due, x, 1, 0, 2);
        });
        Due.test("23 LEVEL STRIDE at most from its own: up", due -> {
            FolioStair x = BoundaryWalks.walked(4, 4);
            x.ask(0, 0);
            dayIs(due, x, 1, 0, 1);
            x.put(0, 0, 5);
            dayIs(due, x, 0, 0, 0);
            x.terms(1, 9);
            dayIs(due, x, 0, 0, 0);
        });
        Due.test("23 LEVEL STRIDE at most from its own: down, DROP is no matter", due -> {
            // LEVELS 3 5 6 8 11: READER 0 on TREAD 3 for the TOP, then READER 1 takes TREADS 0 and 2 from around TREAD 1
            FolioStair x = BoundaryWalks.walked(3, 3, 2, 1, 2, 3);
            x.reader(40, 1);
            x.ask(0, 4);
            x.ask(1, 0);
            x.ask(1, 2);
            x.ask(0, 1);
            dayIs(due, x, 15, 1, 23);
            due.is("3 above it", x.stands(0), 3);
            x.put(3, 0, 3);
            dayIs(due, x, 7, 1, 21);
            due.is("4 above it", x.stands(0), 3);
            x.terms(1, 9);
            dayIs(due, x, 7, 0, 21);
        });
        Due.test("23 a place other than that TREAD", due -> {
            // only from TREAD 1 itself is TREAD 1 near
            FolioStair x = BoundaryWalks.walked(3, 3, 3);
            x.put(0, 3, 1);
            x.ask(0, 1);
            dayIs(due, x, 0, 0, 1);
            x.turn(0, 0, 6);
            dayIs(due, x, 1, 0, 3);
        });
        Due.test("23 the TREAD itself need not carry", due -> {
            FolioStair x = BoundaryWalks.walked(4, 4);
            x.put(0, 1, 1);
            x.ask(0, 0);
            dayIs(due, x, 1, 0, 1);
        });
    }

    private static void whereFrom() {
        Due.test("23 all READERS on the GROUND at first", due -> {
            FolioStair x = Due.stair(3);
            for (int r = 0; r < 6; r++) x.reader(3, 1);
            for (int r = 0; r < 6; r++) due.is("reader " + r, x.stands(r), GROUND);
        });
        Due.test("23 he goes there and stays", due -> {
            // LEVELS 3 6 9: for TREAD 1 to TREAD 0, for TREAD 2 no way on then
            FolioStair x = BoundaryWalks.walked(3, 3, 3, 3);
            x.ask(0, 1);
            x.ask(0, 2);
            dayIs(due, x, 1, 0, 2);
            due.is("stays", x.stands(0), 0);
        });
        Due.test("23 one who is not SERVED stays where he is", due -> {
            FolioStair x = BoundaryWalks.walked(3, 3, 3, 4);
            x.ask(0, 2);
            dayIs(due, x, 0, 0, 0);
            due.is("on the GROUND", x.stands(0), GROUND);
        });
        Due.test("23 from where he is", due -> {
            // LEVELS 3 6 9: on TREAD 1 for the TOP; TREAD 0 then goes for READER 1; READER 0 needs no STEP for what is near
            FolioStair x = BoundaryWalks.walked(3, 3, 3, 3, 3);
            x.reader(3, 1);
            x.ask(0, 2);
            x.ask(1, 0);
            x.ask(0, 3);
            dayIs(due, x, 3, 1, 5);
            due.is("on TREAD 1", x.stands(0), 1);
        });
        Due.test("23 by TREADS that are in", due -> {
            FolioStair x = BoundaryWalks.walked(3, 3, 3);
            x.reader(3, 1);
            x.ask(1, 0);
            x.ask(0, 1);
            dayIs(due, x, 1, 0, 1);
            x.drop(0);
            dayIs(due, x, 1, 0, 2);
        });
        Due.test("23 0 STEPS are enough", due -> {
            FolioStair x = BoundaryWalks.walked(3, 3, 9);
            x.ask(0, 0);
            dayIs(due, x, 1, 0, 1);
            due.is("he stays", x.stands(0), GROUND);
        });
        Due.test("23 a TREAD on which somebody stands carries others, too", due -> {
            FolioStair x = BoundaryWalks.walked(3, 3, 3, 3);
            x.reader(3, 1);
            x.ask(0, 1);
            x.ask(1, 2);
            due.is("TREAD 1 is OUT", x.day(0), 1);
            FolioStair y = BoundaryWalks.walked(3, 3, 2, 1);
            y.reader(3, 1);
            y.ask(0, 1);
            y.ask(1, 2);
            dayIs(due, y, 3, 0, 6);
            due.is("one", y.stands(0), 0);
            due.is("the other one", y.stands(1), 0);
        });
    }

    private static void nearest() {
        Due.test("23 the nearest by STEPS, ahead of the lowest", due -> {
            // LEVELS 2 4 6: TREAD 2 from 2 or 4 with STRIDE 4; TREAD 0 does not carry, then is OUT
            FolioStair x = BoundaryWalks.walked(4, 2, 2, 2);
            x.ask(0, 2);
            due.is("the lowest", x.stands(0), 0);
            x.put(0, 1, 1);
            due.is("it does not carry", x.stands(0), 1);
            // LEVELS 1 4 5 8, STRIDE 4: TREAD 3 from 4 (one STEP) or 5 (two)
            FolioStair y = BoundaryWalks.walked(4, 1, 3, 1, 3);
            y.ask(0, 3);
            due.is("one STEP", y.stands(0), 1);
            y.put(1, 3, 1);
            due.is("two", y.stands(0), 2);
        });
        Due.test("23 of alike ones the GROUND first", due -> {
            // LEVELS 1 2 5 8, STRIDE 3: to TREAD 2 for the TOP, then TREAD 0 from the GROUND or from TREAD 1
            FolioStair x = BoundaryWalks.walked(3, 1, 1, 3, 3);
            x.ask(0, 3);
            due.is("on TREAD 2", x.stands(0), 2);
            x.ask(0, 0);
            x.terms(1, 1);
            due.is("the GROUND is two STEPS off", x.stands(0), 1);
            x.terms(1, 2);
            due.is("one STEP", x.stands(0), GROUND);
            dayIs(due, x, 3, 0, 9);
        });
        Due.test("23 where he is, ahead of all others", due -> {
            // LEVELS 3 6: on TREAD 0 for TREAD 1; TREAD 2 at 7 is near, too, and nobody goes back to the GROUND
            FolioStair x = BoundaryWalks.walked(4, 3, 3, 1);
            x.ask(0, 1);
            x.ask(0, 2);
            dayIs(due, x, 3, 0, 6);
            due.is("TREAD 0", x.stands(0), 0);
        });
    }

    private static void stranded() {
        Due.test("23 STRANDED are not those on the GROUND", due -> {
            FolioStair x = BoundaryWalks.walked(3, 3);
            x.ask(0, 0);
            dayIs(due, x, 1, 0, 1);
        });
        Due.test("23 who stand on a TREAD and can come to the GROUND", due -> {
            FolioStair x = BoundaryWalks.walked(3, 3, 3, 3);
            x.ask(0, 2);
            due.is("on TREAD 1", x.stands(0), 1);
            due.is("not STRANDED", x.day(1), 0);
        });
        Due.test("23 in the end, not when he took it", due -> {
            FolioStair x = BoundaryWalks.walked(3, 3, 3, 3);
            x.reader(3, 1);
            x.ask(0, 2);
            x.ask(1, 0);
            dayIs(due, x, 3, 1, 5);
            x.terms(1, 2);
            due.is("down by 5", x.day(1), 1);
            x.terms(1, 3);
            due.is("down by 6", x.day(1), 0);
        });
        Due.test("23 by each of the places that are as near", due -> {
            // LEVELS 5 9 10 14: from 9 he comes to 5 and 10 by one STEP, to the GROUND only from 5
            FolioStair x = BoundaryWalks.walked(5, 5, 4, 1, 4);
            x.ask(0, 3);
            due.is("stands on TREAD 1", x.stands(0), 1);
            dayIs(due, x, 1, 0, 8);
            x.put(0, 1, 49);
            x.terms(1, 4);
            due.is("not without TREAD 0", x.day(0), 0);
            x.put(0, 1, 50);
            x.put(2, 3, 1);
            dayIs(due, x, 1, 0, 12);
        });
        Due.test("23 up first, then down", due -> {
            // LEVELS 3 6 8 9: READER 0 on TREAD 1 comes down by no TREAD below; all are too high without TREAD 0
            FolioStair x = BoundaryWalks.walked(3, 3, 3, 2, 1);
            x.reader(3, 1);
            x.ask(0, 2);
            x.ask(1, 0);
            dayIs(due, x, 3, 1, 5);
            x.terms(1, 9);
            due.is("12 at once", x.day(1), 0);
        });
    }

    private static void stands() {
        Due.test("24 100: the GROUND; 0: the lowest TREAD", due -> {
            FolioStair x = BoundaryWalks.walked(3, 3, 3);
            due.is("the GROUND", x.stands(0), GROUND);
            x.ask(0, 1);
            due.is("TREAD 0", x.stands(0), 0);
        });
        Due.test("24 on TREAD 10 for the TOP of 12", due -> {
            FolioStair x = BoundaryWalks.walked(1, 1, 1, 1, 1, 1, 1, 1, 1, 1, 1, 1, 1);
            x.ask(0, 11);
            due.is("10", x.stands(0), 10);
        });
        Due.test("24 NONE without such a READER", due -> {
            FolioStair x = BoundaryWalks.walked(1, 1);
            for (int bad : new int[] {-1, 1, 6, 100, LOWEST, HIGHEST}) due.is("stands " + bad, x.stands(bad), NONE);
        });
        Due.test("24 without TREADS", due -> due.is("stands", BoundaryWalks.walked(1).stands(0), GROUND));
    }

    private static void row(Due due, String what, FolioStair x, boolean built, int... want) {
        for (int k = 0; k < want.length; k++) {
            due.is(what + ", what " + k, built ? x.built(k) : x.best(k), want[k]);
        }
        due.is(what + ", behind", built ? x.built(want.length) : x.best(want.length), NONE);
    }

    private static void best() {
        Due.test("25 no ASKINGS: one ORDER", due -> {
            row(due, "nothing", new FolioStair(), false, 0, 0, 1);
            row(due, "a stair", BoundaryWalks.walked(1, 1), false, 0, 0, 1);
        });
        Due.test("25 one ASKING", due -> {
            FolioStair x = BoundaryWalks.walked(1, 1);
            x.ask(0, 0);
            row(due, "SERVED", x, false, 1, 0, 1, 0);
            x.put(0, 3, 1);
            row(due, "not SERVED", x, false, 0, 0, 1, 0);
        });
        Due.test("25 seven ASKINGS in any ORDER", due -> {
            FolioStair x = BoundaryWalks.walked(40, 1, 1, 1, 1, 1, 1, 1);
            for (int a = 0; a < 7; a++) x.ask(0, 6 - a);
            row(due, "all", x, false, 7, 0, 5040, 0, 1, 2, 3, 4, 5, 6);
            for (int t = 0; t < 7; t++) x.put(t, 3, 1);
            row(due, "none", x, false, 0, 0, 5040, 0, 1, 2, 3, 4, 5, 6);
        });
        Due.test("25 alike ASKINGS are ORDERS of their own", due -> {
            FolioStair x = BoundaryWalks.walked(40, 1);
            for (int a = 0; a < 3; a++) x.ask(0, 0);
            row(due, "one of three", x, false, 1, 0, 6, 0, 1, 2);
        });
        Due.test("25 NONE for others", due -> {
            FolioStair x = BoundaryWalks.walked(1, 1, 1);
            x.ask(0, 0);
            x.ask(0, 1);
            for (int bad : new int[] {-1, 5, 9, 10, LOWEST, HIGHEST}) due.is("best " + bad, x.best(bad), NONE);
        });
        Due.test("25 ASKINGS stay as told", due -> {
            // LEVELS 3 6: only TREAD 1 ahead of TREAD 0 can be, from TREAD 0: then nobody gets TREAD 0
            FolioStair x = BoundaryWalks.walked(3, 3, 3);
            x.reader(3, 1);
            x.ask(0, 0);
            x.ask(1, 1);
            x.best(3);
            dayIs(due, x, 1, 0, 1);
        });
    }

    private static void bestTies() {
        Due.test("25 most SERVED, though more are STRANDED", due -> {
            // LEVELS 3 6 9: one ASKING leaves nobody STRANDED, both do, TREAD 2 first
            FolioStair x = BoundaryWalks.walked(3, 3, 3, 3);
            x.ask(0, 0);
            x.ask(0, 2);
            dayIs(due, x, 1, 0, 1);
            row(due, "both", x, false, 2, 1, 1, 1, 0);
        });
        Due.test("25 then fewest STRANDED", due -> {
            // LEVELS 2 6 9: READERS 0 and 1 want the TOP from TREAD 1; READER 1 comes down without TREAD 0
            FolioStair x = Due.stair(2, 4, 3);
            x.reader(4, 10);
            x.reader(6, 10);
            x.reader(40, 10);
            x.ask(0, 2);
            x.ask(1, 2);
            x.ask(2, 0);
            due.is("as told", x.day(1), 1);
            row(due, "READER 1", x, false, 2, 0, 4, 1, 0, 2);
        });
        Due.test("25 the first as a row", due -> {
            // ASKING 2 must be ahead of ASKING 0, whose TREAD READER 0 needs; ASKING 1 can be anywhere
            FolioStair x = BoundaryWalks.walked(3, 3, 3, 3, 3);
            x.reader(40, 1);
            x.ask(1, 0);
            x.ask(1, 3);
            x.ask(0, 2);
            row(due, "BEST", x, false, 3, 1, 3, 1, 2, 0);
        });
    }

    private static void built() {
        Due.test("26 no TREADS: one way", due -> {
            row(due, "nothing", new FolioStair(), true, 0, 0, 1);
            row(due, "a READER", BoundaryWalks.walked(1), true, 0, 0, 1);
        });
        Due.test("26 one TREAD", due -> {
            FolioStair x = BoundaryWalks.walked(1, 1);
            x.ask(0, 0);
            row(due, "SERVED", x, true, 1, 0, 1, 0);
        });
        Due.test("26 6 TREADS at most", due -> {
            FolioStair x = BoundaryWalks.walked(40, 1, 1, 1, 1, 1, 1);
            row(due, "six", x, true, 0, 0, 720, 0, 1, 2, 3, 4, 5);
            x.tread(1, 1);
            for (int what = 0; what < 10; what++) due.is("seven, what " + what, x.built(what), NONE);
        });
        Due.test("26 NONE for others", due -> {
            FolioStair x = BoundaryWalks.walked(1, 1, 1);
            for (int bad : new int[] {-1, 5, 8, 9, LOWEST, HIGHEST}) due.is("built " + bad, x.built(bad), NONE);
        });
        Due.test("26 THICK, BEARS, DUST, whether OUT go with them", due -> {
            // only BOOK 2, lowest, is what a READER of STRIDE 2 can stand on for the other ones
            FolioStair x = Due.stair(4, 2, 2);
            x.reader(2, 50);
            x.put(1, 1, 49);
            x.ask(0, 1);
            row(due, "the lowest alone, or above BOOK 2", x, true, 1, 0, 3, 1, 0, 2);
            x.put(1, 3, 1);
            row(due, "OUT", x, true, 0, 0, 6, 0, 1, 2);
            x.put(1, 3, 0);
            x.put(2, 3, 1);
            row(due, "what he would stand on is OUT", x, true, 1, 0, 2, 1, 0, 2);
            Due.law(x, "bars if dust=0");
            x.force(0);
            x.put(2, 3, 0);
            row(due, "without DUST none carries", x, true, 1, 0, 2, 1, 0, 2);
            x.put(2, 2, 1);
            row(due, "with DUST", x, true, 1, 0, 3, 1, 0, 2);
        });
        Due.test("26 a LAW is asked of the BOOK on the TREAD where it is", due -> {
            // BOOKS 2 2, STRIDE 2: what is on TREAD 1 is had from TREAD 0
            FolioStair x = Due.stair(2, 2);
            x.reader(2, 10);
            x.put(0, 2, 1);
            x.ask(0, 1);
            Due.law(x, "bars if tread=0 and dust>0");
            x.force(0);
            due.is("as told", x.day(0), 0);
            row(due, "the wanted one lowest", x, true, 1, 0, 1, 1, 0);
        });
        Due.test("26 a LAW is asked of the LEVEL that the BOOK has there", due -> {
            // BOOKS 1 2 3: BOOK 2 is near the GROUND alone, lowest, or near a TREAD at LEVEL 3 that is not TREAD 0
            FolioStair x = BoundaryWalks.walked(3, 1, 2, 3);
            x.ask(0, 2);
            Due.law(x, "bars if not level=3;bars if tread=0");
            x.force(0);
            row(due, "BUILT", x, true, 1, 0, 4, 0, 1, 2);
            Due.law(x, "bars if not level=2");
            x.force(1);
            // BOOK 1 lowest is the only one that carries: BOOK 2 just above it, or lowest itself
            row(due, "LEVEL 2", x, true, 1, 0, 3, 1, 2, 0);
        });
        Due.test("26 the LEVEL, the number of a TREAD above two others", due -> {
            // BOOK 3 is had from the GROUND, lowest, or from TREAD 2 at LEVEL 7, the TOP: six ways each
            FolioStair x = BoundaryWalks.walked(8, 1, 2, 4, 8);
            x.ask(0, 3);
            Due.law(x, "bars if not level=7");
            Due.law(x, "bars if not tread=2");
            Due.law(x, "bars if not level=6");
            for (int law = 0; law < 2; law++) {
                x.force(law);
                row(due, "LAW " + law, x, true, 1, 0, 12, 0, 1, 2, 3);
            }
            // LEVEL 6 is that of BOOKS 1 and 2 together: BOOK 3 is had from there just above them alone, at 14
            x.force(2);
            row(due, "LEVEL 6", x, true, 1, 0, 8, 1, 2, 3, 0);
        });
        Due.test("26 each READER who asks is carried or not by himself", due -> {
            // BOOKS 1 and 2 above BOOK 0: both READERS stand on it; below it: both on the GROUND
            FolioStair x = BoundaryWalks.walked(4, 4, 1, 1);
            x.reader(4, 50);
            x.ask(0, 1);
            x.ask(1, 2);
            row(due, "both", x, true, 2, 0, 4, 0, 1, 2);
            x.turn(0, 1, 99);
            row(due, "one of WEIGHT 99", x, true, 2, 0, 4, 0, 1, 2);
            x.put(0, 1, 98);
            row(due, "whom BOOK 0 does not carry", x, true, 2, 0, 2, 1, 2, 0);
            x.turn(0, 1, 50);
            x.turn(1, 1, 99);
            row(due, "the other one", x, true, 2, 0, 2, 1, 2, 0);
        });
        Due.test("26 READERS who ask nothing are no matter", due -> {
            FolioStair x = Due.stair(9, 1, 3);
            x.reader(1, 99);
            x.reader(4, 50);
            x.reader(40, 1);
            x.ask(1, 2);
            row(due, "READER 1 asks", x, true, 1, 0, 3, 1, 2, 0);
        });
        Due.test("26 seven ASKINGS, six TREADS", due -> {
            FolioStair x = BoundaryWalks.walked(40, 1, 1, 1, 1, 1, 1);
            for (int a = 0; a < 7; a++) x.ask(0, a % 6);
            row(due, "all from the GROUND", x, true, 6, 0, 720, 0, 1, 2, 3, 4, 5);
        });
        Due.test("26 the first as a row of BOOKS by TREADS", due -> {
            // BOOK 2 lowest, or in the middle above BOOK 1: its own LEVEL must be 4 at most
            FolioStair x = Due.stair(9, 1, 3);
            x.reader(4, 50);
            x.ask(0, 2);
            row(due, "BUILT", x, true, 1, 0, 3, 1, 2, 0);
        });
        Due.test("26 the stair stays as told", due -> {
            FolioStair x = Due.stair(9, 1);
            x.reader(1, 1);
            x.ask(0, 1);
            x.built(0);
            due.is("THICK", x.of(0, 0), 9);
            dayIs(due, x, 0, 0, 0);
        });
    }

    private static void build() {
        Due.test("27 -3 more than 6 TREADS", due -> {
            BoundaryTold.refused(due, () -> Due.stair(1, 2, 3, 4, 5, 6, 7), "seven", -3, x -> x.build());
            BoundaryTold.refused(due, () -> Due.stair(1, 1, 1, 1, 1, 1, 1, 1, 1, 1, 1, 1), "twelve", -3, x -> x.build());
            due.is("six", Due.stair(1, 2, 3, 4, 5, 6).build(), 0);
        });
        Due.test("27 none elsewhere", due -> {
            due.is("no TREADS", new FolioStair().build(), 0);
            due.is("one", Due.stair(1).build(), 0);
            due.is("nothing asked", Due.stair(1, 2, 3).build(), 0);
        });
        Due.test("27 how many BOOKS are elsewhere; none, if it is built again", due -> {
            FolioStair x = Due.stair(9, 1, 3);
            x.reader(4, 50);
            x.ask(0, 2);
            due.is("all three", x.build(), 3);
            due.is("1", x.of(0, 0), 1);
            due.is("3", x.of(1, 0), 3);
            due.is("9", x.of(2, 0), 9);
            dayIs(due, x, 1, 0, 2);
            due.is("again", x.build(), 0);
        });
        Due.test("27 ASKINGS go with their BOOKS", due -> {
            FolioStair x = Due.stair(9, 1);
            x.reader(1, 1);
            x.ask(0, 1);
            x.ask(0, 0);
            due.is("both", x.build(), 2);
            dayIs(due, x, 1, 0, 1);
        });
    }

    private static void days() {
        Due.test("34 SEED 0 .. 1,000,000", due -> {
            FolioStair x = BoundaryWalks.walked(1, 1);
            due.is("0", x.days(0, 1), 1);
            due.is("1,000,000", x.days(1_000_000, 1), 1);
            for (int bad : new int[] {-1, 1_000_001, 1_000_003, LOWEST, HIGHEST}) {
                BoundaryTold.refused(due, BoundaryDays::spent, "SEED " + bad, -1, y -> y.days(bad, 1));
            }
        });
        Due.test("34 DAYS, 1 .. 20", due -> {
            FolioStair x = BoundaryWalks.walked(1, 1);
            due.is("1", x.days(5, 1), 1);
            due.is("20", x.days(5, 20), 20);
            for (int bad : new int[] {0, -1, 21, 256, LOWEST, HIGHEST}) {
                BoundaryTold.refused(due, BoundaryDays::spent, "n " + bad, -1, y -> y.days(5, bad));
            }
            due.is("the 20th", x.drawn(19, 0), 1);
        });
        Due.test("34 a refused one leaves the latest DAYS", due -> {
            FolioStair x = spent();
            x.days(-1, 1);
            x.days(5, 21);
            due.is("the second", x.drawn(1, 0), 1);
            due.is("no third", x.drawn(2, 0), NONE);
        });
        Due.test("34 without READERS or TREADS: none", due -> {
            FolioStair x = Due.stair(1);
            x.put(0, 3, 1);
            due.is("without READERS", x.days(5, 20), 0);
            for (int what = 0; what < 3; what++) due.is("drawn " + what, x.drawn(19, what), what == 2 ? 1 : 0);
            FolioStair y = BoundaryWalks.walked(1);
            due.is("without TREADS", y.days(5, 3), 0);
            for (int what = 0; what < 3; what++) due.is("drawn " + what, y.drawn(2, what), 0);
            due.is("without both", new FolioStair().days(0, 1), 0);
        });
        Due.test("34 each day as all is told", due -> {
            FolioStair x = BoundaryWalks.walked(1, 1);
            x.ask(0, 0);
            due.is("twenty days", x.days(7, 20), 20);
            due.is("in", x.count(4), 0);
            due.is("the ASKING is not of the DAYS", x.day(0), 1);
            due.is("he is on the GROUND", x.stands(0), GROUND);
        });
    }

    private static FolioStair spent() {
        FolioStair x = BoundaryWalks.walked(1, 1);
        x.days(5, 2);
        return x;
    }

    private static void draws() {
        Due.test("34 s times 1103 and 12345 modulo 1,000,003; READERS, then TREADS; six askings; on through the days", due -> {
            for (int seed : new int[] {0, 1, 905, 999_999, 1_000_000}) {
                for (int readers = 1; readers <= 6; readers++) drawsOf(due, seed, readers, 1 + (seed + readers * 5) % 12);
            }
        });
        Due.test("34 the DRAW of READERS is ahead of that of TREADS", due -> {
            // SEED 0: 12345, then 12345 * 1103 + 12345 modulo 1,000,003: READER 1, TREAD 1 of two
            long first = 12345;
            long second = (first * 1103 + 12345) % 1_000_003;
            due.is("READER", (int) (first % 2), 1);
            FolioStair x = Due.stair(1, 1);
            x.reader(40, 99);
            x.reader(40, 99);
            x.put(0, 1, 1);
            x.put(1, 1, 1);
            due.is("both in the end", x.days(0, 1), x.drawn(0, 0));
            due.is("TREAD", x.drawn(0, 2) >> (int) (second % 2) & 1, 1);
        });
    }

    /** All BOOKS are near the GROUND, so each that is drawn is SERVED once, if READER 0 does not weigh in. */
    private static void drawsOf(Due due, int seed, int readers, int treads) {
        FolioStair x = new FolioStair();
        for (int t = 0; t < treads; t++) x.tread(2, 99);
        x.reader(2, 1);
        for (int r = 1; r < readers; r++) x.reader(40, 1);
        for (int t = 0; t < treads; t++) x.put(t, 1, 1);
        x.turn(0, 1, 99);
        int all = x.days(seed, 20);
        java.math.BigInteger s = java.math.BigInteger.valueOf(seed);
        int sum = 0;
        for (int day = 0; day < 20; day++) {
            int out = 0;
            for (int asking = 0; asking < 6; asking++) {
                s = next(s);
                int reader = s.mod(java.math.BigInteger.valueOf(readers)).intValue();
                s = next(s);
                int tread = s.mod(java.math.BigInteger.valueOf(treads)).intValue();
                if (reader > 0 || tread == 0) out |= 1 << tread;
            }
            sum += Integer.bitCount(out);
            due.is("OUT on day " + day + " of SEED " + seed, x.drawn(day, 2), out);
            due.is("SERVED on day " + day + " of SEED " + seed, x.drawn(day, 0), Integer.bitCount(out));
        }
        due.is("in all", all, sum);
    }

    private static java.math.BigInteger next(java.math.BigInteger s) {
        return s.multiply(java.math.BigInteger.valueOf(1103)).add(java.math.BigInteger.valueOf(12345))
                .mod(java.math.BigInteger.valueOf(1_000_003));
    }

    private static void drawn() {
        Due.test("35 NONE ahead of any", due -> {
            FolioStair x = BoundaryWalks.walked(1, 1);
            for (int what = 0; what < 3; what++) due.is("drawn", x.drawn(0, what), NONE);
            x.days(0, 0);
            due.is("a refused one is none", x.drawn(0, 0), NONE);
        });
        Due.test("35 NONE behind the last of the latest", due -> {
            FolioStair x = BoundaryWalks.walked(1, 1);
            x.days(5, 20);
            due.is("the 20th", x.drawn(19, 2), 1);
            for (int bad : new int[] {20, 21, -1, LOWEST, HIGHEST}) due.is("day " + bad, x.drawn(bad, 0), NONE);
            x.days(5, 2);
            due.is("the second", x.drawn(1, 0), 1);
            due.is("those of the time ahead", x.drawn(2, 0), NONE);
        });
        Due.test("35 NONE for others", due -> {
            FolioStair x = spent();
            for (int bad : new int[] {-1, 3, LOWEST, HIGHEST}) due.is("what " + bad, x.drawn(0, bad), NONE);
            due.is("no refusal", x.status(), 0);
        });
        Due.test("35 as it was then, whatever is told afterwards", due -> {
            FolioStair x = spent();
            x.put(0, 3, 1);
            x.tread(1, 1);
            x.turn(0, 0, 40);
            for (int what = 0; what < 3; what++) due.is("drawn " + what, x.drawn(1, what), what == 1 ? 0 : 1);
        });
        Due.test("35 STRANDED, as bits: the 6th READER", due -> {
            // LEVELS 3 6 9; only READER 5 comes to a TREAD, all get at TREAD 0
            FolioStair x = Due.stair(3, 3, 3);
            for (int r = 0; r < 6; r++) x.reader(3, 99);
            x.turn(5, 1, 1);
            for (int t = 0; t < 3; t++) x.put(t, 1, 50);
            int any = 0;
            for (int seed = 0; seed < 10; seed++) {
                x.days(seed, 20);
                for (int day = 0; day < 20; day++) any |= x.drawn(day, 1);
            }
            due.is("nobody else", any & 31, 0);
            due.is("he at times", any, 32);
        });
    }
}
