/** A test for each sentence that names a boundary case: promises 16 to 20, 29, 30 and 33. */
final class BoundaryWalks {
    private static final int NONE = -1;
    private static final int LOWEST = Integer.MIN_VALUE;
    private static final int HIGHEST = Integer.MAX_VALUE;
    private static final int[] NO_READER = {-1, 1, 6, 256, LOWEST, HIGHEST};

    static void run() {
        steps();
        comes();
        way();
        free();
        cut();
        boards();
        tracks();
        sorted();
        places();
    }

    /** A stair, and READER 0 of WEIGHT 50 with a STRIDE. */
    static FolioStair walked(int stride, int... thick) {
        FolioStair x = Due.stair(thick);
        x.reader(stride, 50);
        return x;
    }

    /** Twelve TREADS of THICK 1. */
    private static FolioStair twelve(int stride) {
        return walked(stride, 1, 1, 1, 1, 1, 1, 1, 1, 1, 1, 1, 1);
    }

    private static void steps() {
        Due.test("16 up by STRIDE at most", due -> {
            FolioStair x = walked(5, 5, 5);
            due.is("5", x.comes(0), 3);
            x.put(1, 0, 6);
            due.is("6", x.comes(0), 1);
            x.put(0, 0, 6);
            due.is("from the GROUND, too", x.comes(0), 0);
            x.turn(0, 0, 6);
            due.is("by 6", x.comes(0), 3);
        });
        Due.test("16 a STEP over TREADS that are OUT or do not carry", due -> {
            FolioStair x = walked(9, 3, 3, 3);
            x.put(0, 3, 1);
            x.put(1, 1, 49);
            due.is("9 at once", x.comes(0), 4);
            x.turn(0, 0, 8);
            due.is("not by 8", x.comes(0), 0);
        });
        Due.test("16 a TREAD that carries just the WEIGHT", due -> {
            FolioStair x = walked(3, 3);
            x.put(0, 1, 50);
            due.is("50", x.comes(0), 1);
            x.put(0, 1, 49);
            due.is("49", x.comes(0), 0);
        });
        Due.test("24 down by STRIDE and DROP at most", due -> {
            // LEVELS 4 8 11: he takes 8 and 4 from where he can, and stands at last 8 above the GROUND
            FolioStair x = walked(4, 4, 4, 3);
            x.ask(0, 2);
            x.ask(0, 0);
            due.is("stands on TREAD 1", x.stands(0), 1);
            due.is("both are SERVED", x.day(0), 3);
            int[] stranded = {1, 1, 1, 1, 0, 0, 0, 0, 0, 0};
            for (int drop = 0; drop < 10; drop++) {
                x.terms(1, drop);
                due.is("DROP " + drop, x.day(1), stranded[drop]);
            }
        });
        Due.test("16 STEPS ask the LAW of each TREAD: its number, its LEVEL", due -> {
            FolioStair x = walked(3, 3, 3, 3);
            Due.law(x, "bars if level>6");
            Due.law(x, "bars if level>5");
            Due.law(x, "bars if level<3");
            Due.law(x, "bars if level<4");
            Due.law(x, "bars if tread=2");
            Due.law(x, "bars if tread=0");
            int[] reached = {3, 1, 7, 0, 3, 0};
            for (int l = 0; l < 6; l++) {
                x.force(l);
                due.is("LAW " + l, x.comes(0), reached[l]);
            }
        });
        Due.test("16 DROP is not for STEPS up", due -> {
            FolioStair x = walked(4, 5);
            x.terms(1, 9);
            due.is("none", x.comes(0), 0);
        });
    }

    private static void comes() {
        Due.test("16 bits of none and of all TREADS", due -> {
            due.is("no TREADS", walked(1).comes(0), 0);
            due.is("all 12", twelve(1).comes(0), 4095);
            FolioStair x = twelve(1);
            x.put(11, 3, 1);
            due.is("without the TOP", x.comes(0), 2047);
            x.put(0, 3, 1);
            due.is("none", x.comes(0), 0);
        });
        Due.test("16 NONE without such a READER", due -> {
            for (int bad : NO_READER) due.is("comes " + bad, walked(1, 1).comes(bad), NONE);
            due.is("no READERS", Due.stair(1).comes(0), NONE);
        });
        Due.test("16 the 6th READER", due -> {
            FolioStair x = Due.stair(6);
            for (int r = 0; r < 6; r++) x.reader(r + 1, 1);
            due.is("comes", x.comes(5), 1);
            due.is("the 5th does not", x.comes(4), 0);
        });
    }

    private static void way() {
        Due.test("17 i NONE: how many STEPS", due -> {
            FolioStair x = twelve(1);
            for (int t = 0; t < 12; t++) due.is("to " + t, x.way(0, t, NONE), t + 1);
            due.is("at once", twelve(12).way(0, 11, NONE), 1);
        });
        Due.test("17 the i-th TREAD of it (0: the first)", due -> {
            FolioStair x = twelve(1);
            for (int i = 0; i < 12; i++) due.is("TREAD " + i, x.way(0, 11, i), i);
            due.is("at once", twelve(12).way(0, 11, 0), 11);
            due.is("the lowest", x.way(0, 0, 0), 0);
        });
        Due.test("17 NONE for i behind the last and below NONE", due -> {
            FolioStair x = twelve(1);
            for (int bad : new int[] {12, 13, -2, LOWEST, HIGHEST}) due.is("i " + bad, x.way(0, 11, bad), NONE);
            due.is("of one STEP", x.way(0, 0, 1), NONE);
        });
        Due.test("17 NONE: there is none", due -> {
            FolioStair x = walked(3, 3, 4);
            due.is("too high", x.way(0, 1, NONE), NONE);
            due.is("its first", x.way(0, 1, 0), NONE);
            x.turn(0, 0, 4);
            due.is("just so", x.way(0, 1, NONE), 2);
            x.put(1, 3, 1);
            due.is("OUT", x.way(0, 1, NONE), NONE);
            x.put(1, 3, 0);
            x.put(1, 1, 49);
            due.is("it does not carry", x.way(0, 1, NONE), NONE);
        });
        Due.test("17 NONE without such a READER, TREAD", due -> {
            FolioStair x = walked(3, 3, 3);
            for (int bad : NO_READER) due.is("reader " + bad, x.way(bad, 0, NONE), NONE);
            for (int bad : new int[] {-1, 2, 12, 100, LOWEST, HIGHEST}) due.is("tread " + bad, x.way(0, bad, NONE), NONE);
            due.is("no refusal", x.status(), 0);
        });
        Due.test("17 the fewest STEPS, ahead of the first as a row", due -> {
            // LEVELS 1 4 7: by 4 and 7, not by 1 4 7
            FolioStair x = walked(4, 1, 3, 3);
            due.is("two", x.way(0, 2, NONE), 2);
            due.is("by TREAD 1", x.way(0, 2, 0), 1);
        });
        Due.test("17 of alike ones the first as a row", due -> {
            // LEVELS 2 4 6 8, STRIDE 6: to 8 by 2, by 4 or by 6
            FolioStair x = walked(6, 2, 2, 2, 2);
            due.is("by TREAD 0", x.way(0, 3, 0), 0);
            x.put(0, 3, 1);
            due.is("by TREAD 1", x.way(0, 3, 0), 1);
            x.put(1, 1, 49);
            due.is("by TREAD 2", x.way(0, 3, 0), 2);
            // LEVELS 1 2 3 5 6, STRIDE 3: to 6 by 3 alone, though TREAD 0 is nearer to the GROUND
            FolioStair y = walked(3, 1, 1, 1, 2, 1);
            due.is("two", y.way(0, 4, NONE), 2);
            due.is("by TREAD 2", y.way(0, 4, 0), 2);
        });
    }

    private static void choices(Due due, String what, int[] got, int... want) {
        for (int k = 0; k < want.length; k++) due.is(what + ", what " + k, got[k], want[k]);
    }

    private static int[] frees(FolioStair x) {
        return new int[] {x.free(0, 0), x.free(0, 1), x.free(0, 2), x.free(0, 3)};
    }

    private static int[] cuts(FolioStair x) {
        return new int[] {x.cut(0, 0), x.cut(0, 1), x.cut(0, 2)};
    }

    private static int[] boardsOf(FolioStair x) {
        return new int[] {x.boards(0, 0), x.boards(0, 1), x.boards(0, 2)};
    }

    private static void free() {
        Due.test("18 none OUT besides, too", due -> {
            choices(due, "each TREAD is needed", frees(twelve(1)), 0, 0, 1, 1);
            choices(due, "one TREAD", frees(walked(1, 1)), 0, 0, 1, 1);
        });
        Due.test("18 the TOP not among them", due -> {
            choices(due, "all others", frees(twelve(12)), 11, 2047, 1, 2048);
            choices(due, "two TREADS", frees(walked(2, 1, 1)), 1, 1, 1, 2);
        });
        Due.test("18 the TOP is the highest TREAD: each new one is it", due -> {
            FolioStair x = walked(2, 1);
            choices(due, "one", frees(x), 0, 0, 1, 1);
            x.tread(1, 99);
            choices(due, "two", frees(x), 1, 1, 1, 2);
            x.tread(1, 49);
            choices(due, "one that does not carry", frees(x), NONE, NONE, 0, 0);
            choices(due, "cut", cuts(x), 0, 0, 1);
        });
        Due.test("18 the most, the lowest as bits, in how many ways", due -> {
            // LEVELS 1 .. 12, STRIDE 11: one of the eleven below must be in
            choices(due, "all but one", frees(twelve(11)), 10, 1023, 11, 2047);
            // STRIDE 6: from 6, or from 1 .. 5 to what is 6 above or less: TREAD 5 alone is enough by itself
            due.is("all but TREAD 5", twelve(6).free(0, 1), 2047 - 32);
            due.is("one way", twelve(6).free(0, 2), 1);
        });
        Due.test("18 one does not come as it is: NONE for 0, 1; 0 for 2, 3", due -> {
            choices(due, "too high", frees(walked(1, 2)), NONE, NONE, 0, 0);
            FolioStair x = walked(9, 1, 1);
            x.put(1, 3, 1);
            choices(due, "the TOP is OUT", frees(x), NONE, NONE, 0, 0);
            x.put(1, 3, 0);
            x.put(1, 1, 49);
            choices(due, "the TOP does not carry", frees(x), NONE, NONE, 0, 0);
        });
        Due.test("18 no TREADS: NONE for all", due -> choices(due, "free", frees(walked(1)), NONE, NONE, NONE, NONE));
        Due.test("18 NONE for others", due -> {
            FolioStair x = walked(1, 1);
            for (int bad : new int[] {-1, 4, 5, LOWEST, HIGHEST}) due.is("what " + bad, x.free(0, bad), NONE);
            for (int bad : NO_READER) {
                for (int what = 0; what < 4; what++) due.is("reader " + bad, x.free(bad, what), NONE);
            }
            due.is("no refusal", x.status(), 0);
        });
        Due.test("18 OUT besides: not those that are OUT already", due -> {
            FolioStair x = walked(12, 1, 1, 1);
            x.put(0, 3, 1);
            choices(due, "TREAD 1 alone", frees(x), 1, 2, 1, 2);
            x.put(1, 3, 1);
            choices(due, "none", frees(x), 0, 0, 1, 1);
        });
        Due.test("18 as all stays told", due -> {
            FolioStair x = twelve(11);
            x.put(3, 3, 1);
            String was = BoundaryTold.tale(x);
            x.free(0, 3);
            x.cut(0, 0);
            x.boards(0, 0);
            due.yes("nothing changed", was.equals(BoundaryTold.tale(x)));
        });
    }

    private static void cut() {
        Due.test("19 0: one does not come", due -> {
            choices(due, "too high", cuts(walked(1, 2)), 0, 0, 1);
            FolioStair x = walked(9, 1, 1);
            x.put(1, 3, 1);
            choices(due, "the TOP is OUT", cuts(x), 0, 0, 1);
            x.put(1, 3, 0);
            x.put(1, 1, 49);
            choices(due, "the TOP does not carry", cuts(x), 0, 0, 1);
        });
        Due.test("19 none cuts it off: NONE for 0, 1; 0 for 2", due -> {
            choices(due, "one TREAD", cuts(walked(1, 1)), NONE, NONE, 0);
            choices(due, "all at once", cuts(twelve(12)), NONE, NONE, 0);
        });
        Due.test("19 no TREADS: NONE for all", due -> choices(due, "cut", cuts(walked(1)), NONE, NONE, NONE));
        Due.test("19 the TOP not among them", due -> choices(due, "the other one", cuts(walked(1, 1, 1)), 1, 1, 1));
        Due.test("19 the fewest, the lowest as bits, in how many ways", due -> {
            choices(due, "any one", cuts(twelve(1)), 1, 1, 11);
            choices(due, "all eleven", cuts(twelve(11)), 11, 2047, 1);
            // STRIDE 2: two beside one another
            choices(due, "two", cuts(twelve(2)), 2, 3, 10);
        });
        Due.test("19 OUT besides: those that are OUT help and are not told", due -> {
            FolioStair x = twelve(2);
            x.put(5, 3, 1);
            choices(due, "one beside it", cuts(x), 1, 16, 2);
        });
        Due.test("19 NONE for others", due -> {
            FolioStair x = walked(1, 1, 1);
            for (int bad : new int[] {-1, 3, 4, LOWEST, HIGHEST}) due.is("what " + bad, x.cut(0, bad), NONE);
            for (int bad : NO_READER) {
                for (int what = 0; what < 3; what++) due.is("reader " + bad, x.cut(bad, what), NONE);
            }
        });
    }

    private static void boards() {
        Due.test("20 none is needed", due -> {
            choices(due, "all in", boardsOf(twelve(1)), 0, 0, 1);
            FolioStair x = walked(9, 1, 1, 1);
            x.put(0, 3, 1);
            choices(due, "one OUT", boardsOf(x), 0, 0, 1);
        });
        Due.test("20 TREADS that are OUT, the TOP, too", due -> {
            FolioStair x = walked(9, 1);
            x.put(0, 3, 1);
            choices(due, "the TOP", boardsOf(x), 1, 1, 1);
            FolioStair y = twelve(1);
            for (int t = 0; t < 12; t++) y.put(t, 3, 1);
            choices(due, "all 12", boardsOf(y), 12, 4095, 1);
        });
        Due.test("20 the fewest, the lowest as bits, in how many ways", due -> {
            FolioStair x = twelve(11);
            for (int t = 0; t < 12; t++) x.put(t, 3, 1);
            choices(due, "the TOP and any", boardsOf(x), 2, 2049, 11);
            x.put(4, 3, 0);
            choices(due, "one is in", boardsOf(x), 1, 2048, 1);
        });
        Due.test("20 not with all: NONE for 0, 1; 0 for 2", due -> {
            FolioStair x = walked(1, 2);
            choices(due, "too high", boardsOf(x), NONE, NONE, 0);
            x.put(0, 3, 1);
            choices(due, "OUT and too high", boardsOf(x), NONE, NONE, 0);
            FolioStair y = walked(1, 1, 1);
            y.put(0, 3, 1);
            y.put(0, 1, 49);
            choices(due, "filled, it does not carry", boardsOf(y), NONE, NONE, 0);
        });
        Due.test("20 FREE, CUT, BOARDS one behind another know nothing of each other", due -> {
            FolioStair x = walked(1, 1, 1);
            for (int k = 0; k < 2; k++) {
                x.put(0, 0, 1);
                choices(due, "free", frees(x), 0, 0, 1, 1);
                choices(due, "cut", cuts(x), 1, 1, 1);
                choices(due, "boards", boardsOf(x), 0, 0, 1);
                x.put(0, 0, 2);
                choices(due, "free", frees(x), NONE, NONE, 0, 0);
                choices(due, "boards", boardsOf(x), NONE, NONE, 0);
                choices(due, "cut", cuts(x), 0, 0, 1);
                choices(due, "boards", boardsOf(x), NONE, NONE, 0);
            }
            due.is("comes as told", x.comes(0), 0);
        });
        Due.test("20 no TREADS: NONE for all", due -> choices(due, "boards", boardsOf(walked(1)), NONE, NONE, NONE));
        Due.test("20 NONE for others", due -> {
            FolioStair x = walked(1, 1, 1);
            for (int bad : new int[] {-1, 3, 4, LOWEST, HIGHEST}) due.is("what " + bad, x.boards(0, bad), NONE);
            for (int bad : NO_READER) {
                for (int what = 0; what < 3; what++) due.is("reader " + bad, x.boards(bad, what), NONE);
            }
        });
    }

    private static void tracksOf(Due due, FolioStair x, int treads, int... want) {
        for (int what = 0; what < 3; what++) due.is("tracks " + treads + ", what " + what, x.tracks(treads, what), want[what]);
    }

    private static void tracks() {
        Due.test("29 bits of TREADS", due -> {
            FolioStair x = walked(1, 1, 1);
            tracksOf(due, x, 3, 1, 1, 1);
            for (int bad : new int[] {4, 5, -1, LOWEST, HIGHEST}) tracksOf(due, x, bad, NONE, NONE, NONE);
            FolioStair y = twelve(1);
            tracksOf(due, y, 4095, 1, 1, 1);
            tracksOf(due, y, 4096, NONE, NONE, NONE);
        });
        Due.test("29 none: 0 sets; NONE for 1, 2", due -> {
            FolioStair x = walked(1, 1, 1);
            tracksOf(due, x, 1, 0, NONE, NONE);
            tracksOf(due, x, 2, 0, NONE, NONE);
        });
        Due.test("29 no TREADS together: nobody", due -> {
            tracksOf(due, walked(1, 1), 0, 1, 0, 0);
            tracksOf(due, Due.stair(1), 0, 1, 0, 0);
            tracksOf(due, Due.stair(1), 1, 0, NONE, NONE);
            tracksOf(due, walked(1), 0, 1, 0, 0);
            tracksOf(due, walked(1), 1, NONE, NONE, NONE);
        });
        Due.test("29 READERS without a WAY to the TOP are in no set", due -> {
            FolioStair x = walked(1, 1, 1);
            x.reader(40, 99);
            x.put(1, 1, 60);
            tracksOf(due, x, 3, 1, 1, 1);
            tracksOf(due, x, 0, 1, 0, 0);
        });
        Due.test("29 the lowest of the fewest", due -> {
            // LEVELS 2 4 6; WAYS 0 2, 1 2 (TREAD 0 does not carry him), 0 1 2
            FolioStair x = Due.stair(2, 2, 2);
            x.put(0, 1, 50);
            x.reader(4, 10);
            x.reader(4, 60);
            tracksOf(due, x, 7, 1, 3, 3);
            x.reader(2, 10);
            tracksOf(due, x, 7, 5, 4, 0);
            x.reader(2, 10);
            tracksOf(due, x, 7, 13, 4, 0);
            tracksOf(due, x, 5, 1, 1, 1);
            tracksOf(due, x, 6, 1, 2, 2);
        });
        Due.test("29 WAYS as all is: not by TREADS that are OUT", due -> {
            FolioStair x = walked(2, 1, 1, 1);
            tracksOf(due, x, 5, 1, 1, 1);
            x.put(0, 3, 1);
            tracksOf(due, x, 5, 0, NONE, NONE);
            tracksOf(due, x, 6, 1, 1, 1);
            x.put(2, 3, 1);
            tracksOf(due, x, 6, 0, NONE, NONE);
            tracksOf(due, x, 0, 1, 0, 0);
        });
        Due.test("29 six READERS", due -> {
            FolioStair x = Due.stair(1);
            for (int r = 0; r < 6; r++) x.reader(1, 1);
            tracksOf(due, x, 1, 63, 1, 0);
            for (int r = 0; r < 5; r++) x.turn(r, 1, 99);
            x.put(0, 1, 98);
            tracksOf(due, x, 1, 1, 32, 32);
        });
        Due.test("29 NONE for others", due -> {
            FolioStair x = walked(1, 1);
            for (int bad : new int[] {-1, 3, LOWEST, HIGHEST}) due.is("what " + bad, x.tracks(1, bad), NONE);
        });
    }

    private static void sortedIs(Due due, FolioStair x, int moved, int... stay) {
        due.is("moved", x.sorted(NONE), moved);
        for (int i = 0; i < stay.length; i++) due.is("stays " + i, x.sorted(i), stay[i]);
        due.is("behind", x.sorted(stay.length), NONE);
    }

    private static void sorted() {
        Due.test("30 no TREADS, one TREAD", due -> {
            sortedIs(due, new FolioStair(), 0);
            sortedIs(due, Due.stair(5), 0, 0);
        });
        Due.test("30 THICK does not rise: alike ones are SORTED", due -> {
            sortedIs(due, Due.stair(5, 5, 5), 0, 0, 1, 2);
            sortedIs(due, Due.stair(9, 9, 8, 5, 5, 1), 0, 0, 1, 2, 3, 4, 5);
            sortedIs(due, Due.stair(5, 6), 1, 0);
        });
        Due.test("30 all rise but one", due -> {
            sortedIs(due, Due.stair(1, 2, 3, 4, 5, 6, 7, 8, 9), 8, 0);
            sortedIs(due, Due.stair(1, 2, 3, 4, 5, 6, 7, 8, 9, 1, 2, 3), 10, 0, 9);
            sortedIs(due, Due.stair(9, 8, 7, 6, 5, 4, 3, 2, 1, 1, 1, 1), 0, 0, 1, 2, 3, 4, 5, 6, 7, 8, 9, 10, 11);
        });
        Due.test("30 of the most of them the first as a row of TREADS", due -> {
            sortedIs(due, Due.stair(3, 4, 2, 3, 1), 2, 0, 2, 4);
            sortedIs(due, Due.stair(1, 5, 2, 4, 3), 2, 1, 3, 4);
            sortedIs(due, Due.stair(2, 3, 1, 1), 1, 0, 2, 3);
        });
        Due.test("30 NONE for others", due -> {
            FolioStair x = Due.stair(2, 1);
            for (int bad : new int[] {-2, 2, 3, LOWEST, HIGHEST}) due.is("i " + bad, x.sorted(bad), NONE);
        });
        Due.test("30 OUT ones, too", due -> {
            FolioStair x = Due.stair(1, 2);
            x.put(0, 3, 1);
            sortedIs(due, x, 1, 0);
        });
    }

    private static void felt(Due due, FolioStair x, int off, int... want) {
        due.is("how many, off " + off, x.places(off, NONE), want.length);
        for (int i = 0; i < want.length; i++) due.is("off " + off + ", the i-th " + i, x.places(off, i), want[i]);
        due.is("behind, off " + off, x.places(off, want.length), NONE);
    }

    private static void places() {
        Due.test("33 NONE without TOES, too", due -> {
            FolioStair x = Due.stair(5);
            due.is("how many", x.places(8, NONE), NONE);
            due.is("the first", x.places(8, 0), NONE);
            x.toe(5);
            felt(due, x, 8, 0);
            x.lift();
            due.is("lifted", x.places(8, NONE), NONE);
        });
        Due.test("33 off by 0 .. 8", due -> {
            FolioStair x = Due.stair(1, 9);
            x.toe(9);
            felt(due, x, 0, 1);
            felt(due, x, 7, 1);
            felt(due, x, 8, 0, 1);
            for (int bad : new int[] {-1, 9, 10, LOWEST, HIGHEST}) {
                due.is("off " + bad, x.places(bad, NONE), NONE);
                due.is("off " + bad, x.places(bad, 0), NONE);
            }
        });
        Due.test("33 off at most, either way", due -> {
            FolioStair x = Due.stair(2, 3, 4, 5, 6, 7, 8);
            x.toe(5);
            felt(due, x, 0, 3);
            felt(due, x, 1, 2, 3, 4);
            felt(due, x, 2, 1, 2, 3, 4, 5);
            felt(due, x, 3, 0, 1, 2, 3, 4, 5, 6);
        });
        Due.test("33 each felt one by itself", due -> {
            FolioStair x = Due.stair(5, 5, 5);
            x.toe(3);
            x.toe(7);
            felt(due, x, 1);
            felt(due, x, 2, 0, 1);
        });
        Due.test("33 as many TOES as TREADS, one more", due -> {
            FolioStair x = Due.stair(5, 5);
            x.toe(5);
            felt(due, x, 0, 0, 1);
            x.toe(5);
            felt(due, x, 0, 0);
            x.toe(5);
            felt(due, x, 0);
            felt(due, x, 8);
        });
        Due.test("33 no TREADS", due -> {
            FolioStair x = new FolioStair();
            x.toe(5);
            felt(due, x, 8);
        });
        Due.test("33 8 TOES on 12 TREADS", due -> {
            FolioStair x = twelve(1);
            for (int t = 0; t < 8; t++) x.toe(1);
            felt(due, x, 0, 0, 1, 2, 3, 4);
            x.put(11, 0, 2);
            felt(due, x, 0, 0, 1, 2, 3);
            felt(due, x, 1, 0, 1, 2, 3, 4);
        });
        Due.test("33 NONE for i below NONE", due -> {
            FolioStair x = Due.stair(5);
            x.toe(5);
            for (int bad : new int[] {-2, 1, LOWEST, HIGHEST}) due.is("i " + bad, x.places(0, bad), NONE);
        });
        Due.test("33 OUT ones, too", due -> {
            FolioStair x = Due.stair(5, 5);
            x.put(0, 3, 1);
            x.toe(5);
            felt(due, x, 0, 0, 1);
        });
    }
}
