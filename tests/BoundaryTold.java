/** A test for each sentence that names a boundary case: promises 1 to 7, 21, 22, 28, 31, 32 and 36 to 39. */
final class BoundaryTold {
    private static final int NONE = -1;
    private static final int LOWEST = Integer.MIN_VALUE;
    private static final int HIGHEST = Integer.MAX_VALUE;
    /** One below and one above the bounds, numbers that are within them as a byte alone, and the ends of int. */
    private static final int[] NOT_THICK = {0, 10, -1, 257, -255, 65541, LOWEST, LOWEST + 1, HIGHEST};
    private static final int[] NOT_BEARS = {0, 100, -1, 257, -255, 65541, LOWEST, LOWEST + 1, HIGHEST};
    private static final int[] NOT_DUST = {-1, 10, 256, -256, 65536, LOWEST, HIGHEST};
    private static final int[] NOT_OUT = {-1, 2, 256, 257, -256, LOWEST, HIGHEST};
    private static final int[] NOT_STRIDE = {0, 41, -1, 257, -255, LOWEST, LOWEST + 1, HIGHEST};
    private static final int[] NOT_WEIGHT = {0, 100, -1, 257, -255, LOWEST, LOWEST + 1, HIGHEST};

    static void run() {
        aNewObject();
        tread();
        put();
        of();
        reader();
        turn();
        terms();
        ask();
        drop();
        swap();
        toes();
        image();
        back();
        backLeaves();
        count();
        status();
    }

    /** All that calls tell of what stands, without changing it. */
    static String tale(FolioStair x) {
        StringBuilder tale = new StringBuilder();
        for (int what = 0; what < 7; what++) tale.append(x.count(what)).append(' ');
        for (int what = 12; what < 15; what++) tale.append(x.count(what)).append(' ');
        for (int t = 0; t < x.count(0); t++) {
            for (int what = 0; what < 5; what++) tale.append(x.of(t, what)).append(' ');
        }
        for (int r = 0; r < x.count(1); r++) tale.append(x.comes(r)).append(' ').append(x.stands(r)).append(' ');
        for (int what = 0; what < 3; what++) tale.append(x.day(what)).append(' ').append(x.drawn(0, what)).append(' ');
        return tale.append(x.torn()).append(' ').append(x.fault()).toString();
    }

    interface Call { int on(FolioStair x); }

    interface Make { FolioStair one(); }

    /** A call is REFUSED: its answer, status(), one more of its count() and of no other, and nothing else changed. */
    static void refused(Due due, Make made, String what, int why, Call call) {
        FolioStair x = made.one();
        int[] whys = {-1, -2, -3, -5, -6};
        int[] were = new int[5];
        for (int k = 0; k < 5; k++) were[k] = x.count(7 + k);
        String was = tale(x);
        due.is(what, call.on(x), why);
        due.is("status of " + what, x.status(), why);
        for (int k = 0; k < 5; k++) due.is("count of " + whys[k] + ", " + what, x.count(7 + k), were[k] + (whys[k] == why ? 1 : 0));
        due.yes("nothing changed by " + what, was.equals(tale(x)));
    }

    /** A TREAD and a READER who comes to it. */
    private static FolioStair lone() {
        FolioStair x = Due.stair(1);
        x.reader(1, 1);
        return x;
    }

    private static FolioStair twelve() {
        return Due.stair(1, 1, 1, 1, 1, 1, 1, 1, 1, 1, 1, 1);
    }

    private static FolioStair withImages() {
        FolioStair x = lone();
        x.image(0);
        x.put(0, 0, 2);
        x.image(1);
        x.put(0, 0, 3);
        return x;
    }

    /** There is no room for more of anything. */
    private static FolioStair full() {
        FolioStair x = new FolioStair();
        for (int t = 0; t < 12; t++) {
            x.tread(1 + t % 3, 60 + t);
            x.put(t, 2, t % 10);
        }
        x.put(4, 3, 1);
        for (int r = 0; r < 6; r++) x.reader(4 + r, 58 + 2 * r);
        for (int a = 0; a < 7; a++) x.ask(a % 6, 11 - a);
        for (int t = 1; t <= 8; t++) x.toe(t);
        for (int l = 0; l < 6; l++) Due.law(x, "bears bears-" + l);
        x.force(5);
        return x;
    }

    private static void aNewObject() {
        Due.test("1 No TREADS", due -> {
            FolioStair x = new FolioStair();
            due.is("count", x.count(0), 0);
            for (int what = -1; what < 6; what++) due.is("of 0 " + what, x.of(0, what), NONE);
            due.is("put", x.put(0, 0, 1), -2);
            due.is("none OUT", x.count(4), 0);
        });
        Due.test("1 no READERS", due -> {
            FolioStair x = new FolioStair();
            due.is("count", x.count(1), 0);
            due.is("turn", x.turn(0, 0, 1), -2);
            due.is("comes", x.comes(0), NONE);
            due.is("stands", x.stands(0), NONE);
        });
        Due.test("1 no ASKINGS, TOES, LAWS, IMAGES, DAYS; an empty TAPE", due -> {
            FolioStair x = new FolioStair();
            for (int what = 2; what < 12; what++) due.is("count " + what, x.count(what), 0);
            due.is("drop", x.drop(0), -2);
            due.is("places", x.places(0, NONE), NONE);
            due.is("force", x.force(0), -2);
            due.is("IMAGE 0", x.back(0), -2);
            due.is("IMAGE 1", x.back(1), -2);
            due.is("DAYS", x.drawn(0, 0), NONE);
            due.is("end", x.end(0), 0);
        });
        Due.test("1 one object knows nothing of another", due -> {
            FolioStair x = Due.stair(1, 2, 3);
            x.reader(5, 5);
            Due.law(x, "bars");
            x.force(0);
            x.terms(0, 1);
            x.image(0);
            Due.text(x, "abc");
            FolioStair y = new FolioStair();
            int[] first = {0, 0, 0, 0, 0, 0, 0, 0, 0, 0, 0, 0, NONE, 9, 0, NONE};
            for (int what = 0; what < first.length; what++) due.is("count " + what, y.count(what), first[what]);
            due.is("no IMAGE", y.back(0), -2);
            due.is("the other as it was", x.count(0), 3);
        });
    }

    private static void tread() {
        Due.test("2 THICK 1 .. 9", due -> {
            FolioStair x = new FolioStair();
            due.is("1", x.tread(1, 50), 0);
            due.is("9", x.tread(9, 50), 1);
            due.is("1", x.of(0, 0), 1);
            due.is("9", x.of(1, 0), 9);
            for (int bad : NOT_THICK) refused(due, BoundaryTold::lone, "THICK " + bad, -1, y -> y.tread(bad, 50));
        });
        Due.test("2 BEARS 1 .. 99", due -> {
            FolioStair x = new FolioStair();
            due.is("1", x.tread(5, 1), 0);
            due.is("99", x.tread(5, 99), 1);
            due.is("1", x.of(0, 1), 1);
            due.is("99", x.of(1, 1), 99);
            for (int bad : NOT_BEARS) refused(due, BoundaryTold::lone, "BEARS " + bad, -1, y -> y.tread(5, bad));
        });
        Due.test("2 TREADS 0 .. 11: 12 at most", due -> {
            FolioStair x = new FolioStair();
            for (int t = 0; t < 12; t++) due.is("tread", x.tread(1 + t % 9, 1 + t), t);
            refused(due, () -> x, "the 13th", -5, y -> y.tread(1, 1));
            due.is("the 12th is there", x.of(11, 1), 12);
            due.is("no 13th", x.of(12, 0), NONE);
        });
        Due.test("2 -1 ahead of -5", due -> {
            refused(due, BoundaryTold::twelve, "THICK", -1, y -> y.tread(0, 1));
            refused(due, BoundaryTold::twelve, "BEARS", -1, y -> y.tread(1, 0));
        });
        Due.test("2 DUST 0 and in at first, also where another TREAD was ahead of BACK", due -> {
            FolioStair x = Due.stair(1);
            x.image(0);
            x.tread(2, 2);
            x.put(1, 2, 9);
            x.put(1, 3, 1);
            x.back(0);
            due.is("number", x.tread(3, 3), 1);
            int[] there = {3, 3, 0, 0, 4};
            for (int what = 0; what < 5; what++) due.is("of " + what, x.of(1, what), there[what]);
        });
        Due.test("2 above all others", due -> {
            FolioStair x = new FolioStair();
            x.tread(9, 1);
            x.tread(1, 1);
            due.is("LEVEL of the first", x.of(0, 4), 9);
            due.is("LEVEL of the next", x.of(1, 4), 10);
        });
    }

    private static void put() {
        Due.test("3 THICK 1 .. 9", due -> putsWithin(due, 0, 1, 9, NOT_THICK));
        Due.test("3 BEARS 1 .. 99", due -> putsWithin(due, 1, 1, 99, NOT_BEARS));
        Due.test("3 DUST 0 .. 9", due -> putsWithin(due, 2, 0, 9, NOT_DUST));
        Due.test("3 OUT 1, 0", due -> putsWithin(due, 3, 0, 1, NOT_OUT));
        Due.test("3 what 0 .. 3", due -> {
            for (int bad : new int[] {-1, 4, 5, 256, LOWEST, HIGHEST}) {
                refused(due, BoundaryTold::lone, "what " + bad, -1, y -> y.put(0, bad, 1));
            }
        });
        Due.test("3 -2 no such TREAD", due -> {
            FolioStair x = Due.stair(5, 5);
            for (int bad : new int[] {2, -1, 12, 256, LOWEST, HIGHEST}) {
                refused(due, () -> Due.stair(5, 5), "tread " + bad, -2, y -> y.put(bad, 0, 1));
            }
            due.is("the last", x.put(1, 0, 1), 5);
        });
        Due.test("3 the 12th TREAD", due -> {
            FolioStair x = Due.stair(1, 1, 1, 1, 1, 1, 1, 1, 1, 1, 1, 1);
            due.is("11", x.put(11, 0, 9), 1);
            refused(due, () -> x, "12", -2, y -> y.put(12, 0, 9));
        });
        Due.test("3 -1 ahead of -2", due -> {
            refused(due, BoundaryTold::lone, "value", -1, y -> y.put(1, 0, 10));
            refused(due, BoundaryTold::lone, "what", -1, y -> y.put(1, 4, 1));
            refused(due, FolioStair::new, "no TREADS", -1, y -> y.put(0, 3, 2));
        });
        Due.test("3 what it was, if it stays so, too", due -> {
            FolioStair x = Due.stair(5);
            due.is("THICK", x.put(0, 0, 5), 5);
            due.is("OUT", x.put(0, 3, 1), 0);
            due.is("OUT again", x.put(0, 3, 1), 1);
            due.is("in", x.put(0, 3, 0), 1);
            due.is("in again", x.put(0, 3, 0), 0);
            due.is("status", x.status(), 0);
        });
    }

    private static void putsWithin(Due due, int what, int lowest, int highest, int[] bad) {
        FolioStair x = Due.stair(5, 5);
        int was = x.of(1, what);
        due.is("lowest", x.put(1, what, lowest), was);
        due.is("highest", x.put(1, what, highest), lowest);
        due.is("there", x.of(1, what), highest);
        due.is("not the other one", x.of(0, what), was);
        for (int value : bad) refused(due, () -> Due.stair(5, 5), "value " + value, -1, y -> y.put(1, what, value));
    }

    private static void of() {
        Due.test("4 0 .. 3 and LEVEL (4), NONE for others", due -> {
            FolioStair x = new FolioStair();
            x.tread(3, 77);
            x.put(0, 2, 4);
            x.put(0, 3, 1);
            int[] there = {NONE, 3, 77, 4, 1, 3, NONE, NONE};
            for (int what = -1; what < 7; what++) due.is("of " + what, x.of(0, what), there[what + 1]);
            due.is("lowest", x.of(0, LOWEST), NONE);
            due.is("highest", x.of(0, HIGHEST), NONE);
        });
        Due.test("4 NONE without such a TREAD", due -> {
            FolioStair x = Due.stair(3, 3);
            for (int bad : new int[] {-1, 2, 12, 256, LOWEST, HIGHEST}) {
                for (int what = 0; what < 5; what++) due.is("of " + bad, x.of(bad, what), NONE);
            }
        });
        Due.test("4 NONE is no refusal", due -> {
            FolioStair x = Due.stair(3);
            x.tread(0, 0);
            due.is("of", x.of(1, 9), NONE);
            due.is("status stays", x.status(), -1);
            due.is("one -1", x.count(7), 1);
            due.is("no -2", x.count(8), 0);
        });
        Due.test("4 LEVEL: THICK of it and all below, OUT ones, too", due -> {
            FolioStair x = Due.stair(4, 1, 9);
            for (int t = 0; t < 3; t++) x.put(t, 3, 1);
            due.is("the lowest", x.of(0, 4), 4);
            due.is("next", x.of(1, 4), 5);
            due.is("TOP", x.of(2, 4), 14);
            x.put(0, 0, 1);
            due.is("those above sink", x.of(2, 4), 11);
            x.put(2, 0, 1);
            due.is("those below stay", x.of(1, 4), 2);
        });
        Due.test("4 the highest LEVEL", due -> {
            FolioStair x = Due.stair(9, 9, 9, 9, 9, 9, 9, 9, 9, 9, 9, 9);
            due.is("108", x.of(11, 4), 108);
        });
    }

    private static void reader() {
        Due.test("5 STRIDE 1 .. 40", due -> {
            FolioStair x = new FolioStair();
            due.is("1", x.reader(1, 5), 0);
            due.is("40", x.reader(40, 5), 1);
            for (int bad : NOT_STRIDE) refused(due, BoundaryTold::lone, "STRIDE " + bad, -1, y -> y.reader(bad, 5));
            due.is("it was 1", x.turn(0, 0, 7), 1);
            due.is("it was 40", x.turn(1, 0, 7), 40);
        });
        Due.test("5 WEIGHT 1 .. 99", due -> {
            FolioStair x = new FolioStair();
            due.is("1", x.reader(5, 1), 0);
            due.is("99", x.reader(5, 99), 1);
            for (int bad : NOT_WEIGHT) refused(due, BoundaryTold::lone, "WEIGHT " + bad, -1, y -> y.reader(5, bad));
            due.is("it was 1", x.turn(0, 1, 7), 1);
            due.is("it was 99", x.turn(1, 1, 7), 99);
        });
        Due.test("5 READERS 0 .. 5: 6 at most", due -> {
            FolioStair x = new FolioStair();
            for (int r = 0; r < 6; r++) due.is("reader", x.reader(1 + r, 1), r);
            refused(due, () -> x, "the 7th", -5, y -> y.reader(1, 1));
            due.is("the 6th is there", x.turn(5, 0, 1), 6);
        });
        Due.test("5 -1 ahead of -5", due -> {
            refused(due, BoundaryTold::full, "STRIDE", -1, y -> y.reader(41, 1));
            refused(due, BoundaryTold::full, "WEIGHT", -1, y -> y.reader(1, 100));
        });
    }

    private static void turn() {
        Due.test("6 STRIDE 1 .. 40", due -> turnsWithin(due, 0, 40, NOT_STRIDE));
        Due.test("6 WEIGHT 1 .. 99", due -> turnsWithin(due, 1, 99, NOT_WEIGHT));
        Due.test("6 what 0, 1", due -> {
            for (int bad : new int[] {-1, 2, 3, 256, LOWEST, HIGHEST}) {
                refused(due, BoundaryTold::lone, "what " + bad, -1, y -> y.turn(0, bad, 1));
            }
        });
        Due.test("6 -2 no such READER", due -> {
            for (int bad : new int[] {-1, 1, 6, 256, LOWEST, HIGHEST}) {
                refused(due, BoundaryTold::lone, "reader " + bad, -2, y -> y.turn(bad, 0, 1));
            }
        });
        Due.test("6 -1 ahead of -2", due -> {
            refused(due, FolioStair::new, "value", -1, y -> y.turn(0, 0, 0));
            refused(due, FolioStair::new, "what", -1, y -> y.turn(0, 2, 1));
        });
    }

    private static void turnsWithin(Due due, int what, int highest, int[] bad) {
        FolioStair x = new FolioStair();
        x.reader(5, 5);
        x.reader(6, 6);
        due.is("lowest", x.turn(1, what, 1), 6);
        due.is("highest", x.turn(1, what, highest), 1);
        for (int value : bad) refused(due, BoundaryTold::full, "value " + value, -1, y -> y.turn(1, what, value));
        due.is("it stayed", x.turn(1, what, 3), highest);
        due.is("the other one, too", x.turn(0, what, 3), 5);
    }

    private static void terms() {
        Due.test("7 HOUR 0 .. 23, 9 at first", due -> {
            FolioStair x = new FolioStair();
            due.is("9", x.terms(0, 0), 9);
            due.is("0", x.terms(0, 23), 0);
            for (int bad : new int[] {-1, 24, 256, LOWEST, HIGHEST}) refused(due, BoundaryTold::lone, "HOUR " + bad, -1, y -> y.terms(0, bad));
            due.is("23", x.terms(0, 23), 23);
            due.is("DROP stays", x.count(14), 0);
        });
        Due.test("7 DROP 0 .. 9, 0 at first", due -> {
            FolioStair x = new FolioStair();
            due.is("0", x.terms(1, 9), 0);
            due.is("9", x.terms(1, 0), 9);
            for (int bad : new int[] {-1, 10, 23, 256, LOWEST, HIGHEST}) refused(due, BoundaryTold::lone, "DROP " + bad, -1, y -> y.terms(1, bad));
            due.is("0", x.terms(1, 1), 0);
            due.is("HOUR stays", x.count(13), 9);
        });
        Due.test("7 TERMS 0, 1", due -> {
            for (int bad : new int[] {-1, 2, 256, LOWEST, HIGHEST}) {
                refused(due, BoundaryTold::lone, "TERM " + bad, -1, y -> y.terms(bad, 5));
            }
        });
    }

    private static void ask() {
        Due.test("21 ASKINGS 0 .. 6: 7 at most", due -> {
            FolioStair x = Due.stair(1);
            x.reader(1, 1);
            for (int a = 0; a < 7; a++) due.is("ask", x.ask(0, 0), a);
            refused(due, () -> x, "the 8th", -5, y -> y.ask(0, 0));
        });
        Due.test("21 -2 no such READER, TREAD", due -> {
            for (int bad : new int[] {-1, 1, 100, LOWEST, HIGHEST}) {
                refused(due, BoundaryTold::lone, "reader " + bad, -2, y -> y.ask(bad, 0));
                refused(due, BoundaryTold::lone, "tread " + bad, -2, y -> y.ask(0, bad));
            }
        });
        Due.test("21 -2 ahead of -5", due -> {
            refused(due, BoundaryTold::full, "reader", -2, y -> y.ask(6, 0));
            refused(due, BoundaryTold::full, "tread", -2, y -> y.ask(0, 12));
        });
        Due.test("21 the last READER, the last TREAD; one that is OUT, too", due -> {
            FolioStair x = Due.stair(1, 1, 1, 1, 1, 1, 1, 1, 1, 1, 1, 1);
            for (int r = 0; r < 6; r++) x.reader(40, 1);
            x.put(11, 3, 1);
            due.is("both", x.ask(5, 11), 0);
            due.is("not SERVED", x.day(0), 0);
            x.put(11, 3, 0);
            due.is("SERVED", x.day(0), 1);
        });
    }

    private static void drop() {
        Due.test("22 those behind it move up", due -> {
            // alike READERS want TREADS 0, 1, 2; the day tells which by what is OUT
            FolioStair x = Due.stair(1, 1, 1);
            x.reader(40, 1);
            for (int t = 0; t < 3; t++) x.ask(0, t);
            due.is("the middle one", x.drop(1), 2);
            due.is("two are SERVED", x.day(0), 3);
            due.is("0 and 2", x.day(2), 5);
            due.is("the second is of TREAD 2 now", x.drop(1), 1);
            due.is("0", x.day(2), 1);
        });
        Due.test("22 those behind it move up with their READERS", due -> {
            // LEVELS 1 2: READER 1 gets at TREAD 0 alone
            FolioStair x = Due.stair(1, 1);
            x.reader(40, 1);
            x.reader(1, 1);
            x.turn(1, 1, 99);
            x.put(0, 1, 98);
            x.ask(0, 0);
            x.ask(1, 1);
            x.ask(0, 1);
            due.is("0 and 2", x.day(0), 5);
            x.drop(0);
            due.is("READER 1, then READER 0", x.day(0), 2);
            x.drop(1);
            due.is("READER 1", x.day(0), 0);
        });
        Due.test("22 the first, the last, how many are left", due -> {
            FolioStair x = Due.stair(1, 1, 1);
            x.reader(40, 1);
            for (int t = 0; t < 3; t++) x.ask(0, t);
            due.is("the first", x.drop(0), 2);
            due.is("1 and 2", x.day(2), 6);
            due.is("the last", x.drop(1), 1);
            due.is("1", x.day(2), 2);
            due.is("the only one", x.drop(0), 0);
            due.is("none", x.day(2), 0);
        });
        Due.test("22 -2 no such ASKING", due -> {
            refused(due, BoundaryTold::lone, "none at all", -2, y -> y.drop(0));
            for (int bad : new int[] {-1, 7, 8, LOWEST, HIGHEST}) {
                refused(due, BoundaryTold::full, "asking " + bad, -2, y -> y.drop(bad));
            }
        });
        Due.test("22 a full row has room again", due -> {
            FolioStair x = Due.stair(1, 1);
            x.reader(40, 1);
            for (int a = 0; a < 7; a++) x.ask(0, 0);
            due.is("the 7th goes", x.drop(6), 6);
            due.is("another one", x.ask(0, 1), 6);
            due.is("SERVED", x.day(0), 65);
        });
    }

    private static void swap() {
        Due.test("28 -3 the same one", due -> {
            for (int t = 0; t < 12; t++) {
                int same = t;
                refused(due, BoundaryTold::full, "swap " + t, -3, y -> y.swap(same, same));
            }
        });
        Due.test("28 -2 no such TREAD, ahead of -3", due -> {
            for (int bad : new int[] {-1, 3, 12, LOWEST, HIGHEST}) {
                refused(due, () -> Due.stair(1, 2, 3), "one " + bad, -2, y -> y.swap(bad, 0));
                refused(due, () -> Due.stair(1, 2, 3), "other " + bad, -2, y -> y.swap(0, bad));
                refused(due, () -> Due.stair(1, 2, 3), "both " + bad, -2, y -> y.swap(bad, bad));
            }
        });
        Due.test("28 the lowest and the TOP of 12", due -> {
            FolioStair x = new FolioStair();
            for (int t = 0; t < 12; t++) x.tread(1 + t % 9, 50 + t);
            due.is("swap", x.swap(11, 0), 0);
            due.is("the lowest", x.of(0, 1), 61);
            due.is("the TOP", x.of(11, 1), 50);
            due.is("all others as they were", x.of(1, 1) + x.of(10, 1), 111);
            due.is("the LEVEL of all as it was", x.of(11, 4), 51);
            due.is("back again", x.swap(0, 11), 0);
            due.is("the lowest", x.of(0, 1), 50);
        });
        Due.test("28 ASKINGS of both go with their BOOKS, others stay", due -> {
            FolioStair x = Due.stair(1, 1, 1);
            x.reader(40, 1);
            x.ask(0, 0);
            x.ask(0, 2);
            x.ask(0, 1);
            x.swap(0, 2);
            x.drop(2);
            x.drop(1);
            due.is("the first wants TREAD 2 now", x.day(2), 4);
            FolioStair y = Due.stair(1, 1, 1);
            y.reader(40, 1);
            y.ask(0, 1);
            y.swap(0, 2);
            due.is("one between", y.day(2), 2);
        });
        Due.test("28 THICK, BEARS, DUST, OUT go along", due -> {
            FolioStair x = new FolioStair();
            x.tread(9, 98);
            x.tread(1, 2);
            x.put(0, 2, 7);
            x.put(0, 3, 1);
            x.swap(0, 1);
            int[] there = {1, 2, 0, 0, 1, 9, 98, 7, 1, 10};
            for (int k = 0; k < 10; k++) due.is("of " + k, x.of(k / 5, k % 5), there[k]);
        });
        Due.test("28 more than 6 TREADS are no matter", due -> {
            FolioStair x = Due.stair(1, 2, 3, 4, 5, 6, 7);
            due.is("swap", x.swap(5, 6), 0);
            due.is("7", x.of(5, 0), 7);
        });
    }

    private static void toes() {
        Due.test("31 THICK 1 .. 9", due -> {
            FolioStair x = new FolioStair();
            due.is("1", x.toe(1), 1);
            due.is("9", x.toe(9), 2);
            for (int bad : NOT_THICK) refused(due, BoundaryTold::lone, "THICK " + bad, -1, y -> y.toe(bad));
        });
        Due.test("31 TOES, 8 at most", due -> {
            FolioStair x = new FolioStair();
            for (int t = 1; t <= 8; t++) due.is("toe", x.toe(t), t);
            refused(due, () -> x, "the 9th", -5, y -> y.toe(9));
            refused(due, () -> x, "-1 ahead of -5", -1, y -> y.toe(10));
        });
        Due.test("31 one more is felt above", due -> {
            FolioStair x = Due.stair(1, 2, 3);
            x.toe(2);
            x.toe(3);
            due.is("2 then 3", x.places(0, 0), 1);
        });
        Due.test("32 none then, how many there were", due -> {
            FolioStair x = Due.stair(1);
            due.is("none", x.lift(), 0);
            x.toe(1);
            due.is("one", x.lift(), 1);
            due.is("no PLACES", x.places(8, NONE), NONE);
            due.is("count", x.count(5), 0);
            for (int t = 1; t <= 8; t++) x.toe(9);
            due.is("eight", x.lift(), 8);
            due.is("room again", x.toe(1), 1);
            due.is("the old ones are gone", x.places(0, 0), 0);
        });
        Due.test("32 lift is not among those of status", due -> {
            FolioStair x = new FolioStair();
            x.toe(0);
            x.lift();
            due.is("status", x.status(), -1);
        });
    }

    private static void image() {
        Due.test("36 IMAGES 0, 1", due -> {
            FolioStair x = Due.stair(1);
            due.is("0", x.image(0), 0);
            due.is("1", x.image(1), 0);
            for (int bad : new int[] {-1, 2, 256, LOWEST, HIGHEST}) {
                refused(due, BoundaryTold::lone, "image " + bad, -1, y -> y.image(bad));
            }
        });
        Due.test("36 a refused one keeps nothing", due -> {
            FolioStair x = Due.stair(1);
            x.image(2);
            x.image(-1);
            due.is("0", x.back(0), -2);
            due.is("1", x.back(1), -2);
        });
        Due.test("36 kept anew", due -> {
            FolioStair x = Due.stair(1);
            x.image(0);
            x.put(0, 0, 2);
            x.image(0);
            x.put(0, 0, 3);
            x.back(0);
            due.is("the later one", x.of(0, 0), 2);
        });
        Due.test("36 of nothing", due -> {
            FolioStair x = new FolioStair();
            due.is("image", x.image(1), 0);
            x.tread(1, 1);
            x.reader(1, 1);
            x.ask(0, 0);
            x.toe(1);
            Due.law(x, "bars");
            x.force(0);
            x.terms(0, 3);
            x.terms(1, 3);
            due.is("back", x.back(1), 0);
            int[] first = {0, 0, 0, 0, 0, 0, 0, 0, 0, 0, 0, 0, NONE, 9, 0};
            for (int what = 0; what < first.length; what++) due.is("count " + what, x.count(what), first[what]);
        });
        Due.test("36 of all that there is room for", due -> {
            FolioStair x = full();
            String was = tale(x);
            x.image(1);
            for (int t = 0; t < 12; t++) {
                for (int what = 0; what < 4; what++) x.put(t, what, 1);
            }
            for (int r = 0; r < 6; r++) x.turn(r, 0, 1);
            for (int a = 0; a < 7; a++) x.drop(0);
            x.lift();
            x.force(NONE);
            x.back(1);
            due.yes("as it was", was.equals(tale(x)));
            due.is("the last TOE", x.lift(), 8);
            due.is("no room for a LAW", Due.law(x, "bars"), -5);
            due.is("the last LAW", x.force(5), 5);
        });
    }

    private static void back() {
        Due.test("37 -1 no IMAGE can be so", due -> {
            for (int bad : new int[] {-1, 2, 256, LOWEST, HIGHEST}) {
                refused(due, BoundaryTold::lone, "back " + bad, -1, y -> y.back(bad));
                refused(due, BoundaryTold::withImages, "back with IMAGES " + bad, -1, y -> y.back(bad));
            }
        });
        Due.test("37 -2 it was not kept", due -> {
            FolioStair x = Due.stair(1);
            refused(due, () -> x, "back 0", -2, y -> y.back(0));
            refused(due, () -> x, "back 1", -2, y -> y.back(1));
            x.image(1);
            refused(due, () -> x, "the other one", -2, y -> y.back(0));
            due.is("this one", x.back(1), 0);
        });
        Due.test("37 IMAGES stay", due -> {
            FolioStair x = Due.stair(1);
            x.image(0);
            x.put(0, 0, 2);
            x.image(1);
            for (int k = 0; k < 3; k++) {
                due.is("back 0", x.back(0), 0);
                due.is("1", x.put(0, 0, 9), 1);
                due.is("back 1", x.back(1), 0);
                due.is("2", x.put(0, 0, 8), 2);
            }
        });
        Due.test("37 an IMAGE of what BACK brought", due -> {
            FolioStair x = Due.stair(1);
            x.image(0);
            x.put(0, 0, 2);
            x.back(0);
            x.image(1);
            x.put(0, 0, 3);
            x.image(0);
            x.back(1);
            due.is("1", x.of(0, 0), 1);
            x.back(0);
            due.is("3", x.of(0, 0), 3);
        });
        Due.test("37 TOES are as they were then", due -> {
            FolioStair x = Due.stair(1, 2, 3);
            x.toe(2);
            x.image(0);
            x.lift();
            x.toe(3);
            x.toe(4);
            due.is("none", x.places(0, NONE), 0);
            x.back(0);
            due.is("one TOE", x.count(5), 1);
            due.is("2", x.places(0, 0), 1);
        });
        Due.test("37 LAWS are as they were then", due -> {
            FolioStair x = Due.stair(1);
            x.reader(1, 1);
            x.image(1);
            Due.law(x, "bars");
            Due.law(x, "bears 1");
            x.image(0);
            x.back(1);
            due.is("none", x.count(2), 0);
            due.is("another LAW 0", Due.law(x, "bears 99"), 0);
            due.is("another LAW 1", Due.law(x, "bars"), 1);
            x.back(0);
            x.force(0);
            due.is("LAW 0 bars", x.carries(0, 0), 0);
            x.force(1);
            due.is("LAW 1 bears", x.carries(0, 0), 1);
        });
        Due.test("37 each thing is as it was then", due -> {
            Call[] changes = {y -> y.put(3, 0, 9), y -> y.put(3, 1, 1), y -> y.put(3, 2, 9), y -> y.put(3, 3, 1),
                y -> y.turn(2, 0, 40), y -> y.turn(2, 1, 99), y -> y.terms(0, 1), y -> y.terms(1, 9), y -> y.force(0),
                y -> y.drop(0), y -> y.swap(0, 11), y -> y.lift()};
            for (int k = 0; k < 3; k++) {
                FolioStair x = full();
                String was = tale(x);
                x.image(0);
                for (int c = k; c < changes.length; c += 3) changes[c].on(x);
                due.yes("changed", !was.equals(tale(x)));
                x.back(0);
                due.yes("as it was", was.equals(tale(x)));
            }
        });
    }

    private static void backLeaves() {
        Due.test("37 all but the TAPE", due -> {
            FolioStair x = new FolioStair();
            x.image(0);
            Due.text(x, "bars");
            x.back(0);
            due.is("bytes", x.count(6), 4);
            due.is("what they say", x.law(), 0);
            Due.text(x, "bars");
            x.image(0);
            x.end(0);
            x.back(0);
            due.is("none", x.count(6), 0);
        });
        Due.test("37 all but FAULT", due -> {
            FolioStair x = new FolioStair();
            x.image(0);
            Due.law(x, "bars x");
            x.back(0);
            due.is("fault", x.fault(), 5);
            x.image(0);
            Due.law(x, "bars");
            x.back(0);
            due.is("none", x.fault(), NONE);
        });
        Due.test("37 all but TORN", due -> {
            FolioStair x = new FolioStair();
            x.image(0);
            Due.bytes(x, 1, 1);
            x.row();
            x.back(0);
            due.is("torn", x.torn(), 1);
        });
        Due.test("37 all but the latest DAYS", due -> {
            FolioStair x = Due.stair(1);
            x.image(0);
            x.reader(40, 1);
            x.days(0, 2);
            x.back(0);
            due.is("SERVED", x.drawn(1, 0), 1);
            due.is("two DAYS", x.drawn(2, 0), NONE);
        });
        Due.test("37 all but how many were REFUSED", due -> {
            FolioStair x = new FolioStair();
            x.image(0);
            x.tread(0, 0);
            x.drop(0);
            x.row();
            x.back(0);
            due.is("-1", x.count(7), 1);
            due.is("-2", x.count(8), 1);
            due.is("-6", x.count(11), 1);
            due.is("status is of back", x.status(), 0);
        });
        Due.test("37 LAWS that came behind the IMAGE are gone, those of its time are there", due -> {
            FolioStair x = Due.stair(1);
            x.reader(1, 1);
            Due.law(x, "bars");
            x.image(0);
            Due.law(x, "bears 1");
            x.force(1);
            x.back(0);
            due.is("one LAW", x.count(2), 1);
            due.is("none in FORCE", x.count(12), NONE);
            due.is("no LAW 1", x.force(1), -2);
            due.is("another LAW 1", Due.law(x, "bars if 1=2"), 1);
            x.force(0);
            due.is("LAW 0 is the same", x.carries(0, 0), 0);
        });
    }

    private static void count() {
        Due.test("38 NONE for others", due -> {
            FolioStair x = Due.stair(1);
            for (int other : new int[] {-1, 15, 16, 256, LOWEST, HIGHEST}) due.is("count " + other, x.count(other), NONE);
            due.is("no refusal", x.status(), 0);
        });
        Due.test("38 TREADS that are OUT: none, some, all", due -> {
            FolioStair x = Due.stair(1, 1, 1);
            due.is("none", x.count(4), 0);
            x.put(0, 3, 1);
            x.put(2, 3, 1);
            due.is("two", x.count(4), 2);
            x.put(1, 3, 1);
            due.is("all", x.count(4), 3);
            x.put(1, 3, 0);
            due.is("two", x.count(4), 2);
        });
        Due.test("38 how many calls were REFUSED by -1, -2, -3, -5, -6", due -> {
            FolioStair x = Due.stair(1, 1, 1, 1, 1, 1, 1);
            Call[] calls = {y -> y.toe(0), y -> y.drop(0), y -> y.build(), y -> fillReaders(y), y -> y.row()};
            int[] whys = {-1, -2, -3, -5, -6};
            for (int k = 0; k < 5; k++) {
                for (int times = 0; times <= k; times++) due.is("refused", calls[k].on(x), whys[k]);
                for (int other = 0; other < 5; other++) due.is("count " + (7 + other), x.count(7 + other), other <= k ? other + 1 : 0);
            }
        });
        Due.test("38 the LAW in FORCE, TERMS", due -> {
            FolioStair x = new FolioStair();
            due.is("NONE", x.count(12), NONE);
            Due.law(x, "bars");
            due.is("not by itself", x.count(12), NONE);
            x.force(0);
            due.is("0", x.count(12), 0);
            x.force(NONE);
            due.is("NONE", x.count(12), NONE);
            x.terms(0, 23);
            x.terms(1, 9);
            due.is("HOUR", x.count(13), 23);
            due.is("DROP", x.count(14), 9);
        });
        Due.test("38 full", due -> {
            FolioStair x = full();
            for (int n = 20; n <= 400; n += 20) x.feed(0, 0, 0, 0, 0);
            int[] all = {12, 6, 6, 7, 1, 8, 400};
            for (int what = 0; what < 7; what++) due.is("count " + what, x.count(what), all[what]);
        });
    }

    private static int fillReaders(FolioStair x) {
        int answer = 0;
        for (int r = x.count(1); r < 7; r++) answer = x.reader(1, 1);
        return answer;
    }

    private static void status() {
        Due.test("39 0 ahead of any", due -> due.is("status", new FolioStair().status(), 0));
        Due.test("39 0 if the latest was not REFUSED", due -> {
            Call[] good = {y -> y.tread(1, 1), y -> y.put(0, 0, 1), y -> y.reader(1, 1), y -> y.turn(0, 0, 1), y -> y.terms(0, 9),
                y -> row(y), y -> Due.law(y, "bars"), y -> y.force(NONE), y -> y.ask(0, 0), y -> y.drop(0), y -> y.build(),
                y -> y.swap(0, 1), y -> y.toe(1), y -> y.days(0, 1), y -> y.image(0), y -> y.back(0)};
            FolioStair x = new FolioStair();
            for (int k = 0; k < good.length; k++) {
                x.tread(0, 0);
                due.is("bad", x.status(), -1);
                good[k].on(x);
                due.is("call " + k, x.status(), 0);
            }
        });
        Due.test("39 what each was REFUSED by", due -> {
            Call[] bad = {y -> y.tread(0, 1), y -> y.put(0, 0, 0), y -> y.reader(0, 0), y -> y.turn(0, 0, 0), y -> y.terms(0, 24),
                y -> y.row(), y -> Due.law(y, ""), y -> y.force(9), y -> y.ask(0, 9), y -> y.drop(9), y -> y.build(),
                y -> y.swap(0, 0), y -> y.toe(0), y -> y.days(-1, 1), y -> y.image(2), y -> y.back(2)};
            int[] whys = {-1, -1, -1, -1, -1, -6, -6, -2, -2, -2, -3, -3, -1, -1, -1, -1};
            FolioStair x = Due.stair(1, 1, 1, 1, 1, 1, 1);
            for (int k = 0; k < bad.length; k++) {
                x.force(NONE);
                due.is("good", x.status(), 0);
                due.is("call " + k, bad[k].on(x), whys[k]);
                due.is("status of " + k, x.status(), whys[k]);
            }
        });
        Due.test("39 other calls leave it", due -> {
            FolioStair x = Due.stair(3, 3);
            x.reader(3, 3);
            Call[] others = {y -> y.of(0, 0), y -> y.feed(0, 0, 0, 0, 0), y -> y.end(0), y -> y.torn(), y -> y.fault(),
                y -> y.carries(0, 0), y -> y.comes(0), y -> y.way(0, 1, 0), y -> y.free(0, 0), y -> y.cut(0, 0), y -> y.boards(0, 0),
                y -> y.day(0), y -> y.stands(0), y -> y.best(0), y -> y.built(0), y -> y.tracks(0, 0), y -> y.sorted(NONE),
                y -> y.lift(), y -> y.places(0, 0), y -> y.drawn(0, 0), y -> y.count(0), y -> y.status()};
            x.swap(0, 0);
            for (int k = 0; k < others.length; k++) {
                others[k].on(x);
                due.is("other " + k, x.status(), -3);
            }
            x.image(0);
            Call[] wrong = {y -> y.of(9, 9), y -> y.end(999), y -> y.carries(9, 9), y -> y.comes(9), y -> y.way(9, 9, 9),
                y -> y.free(9, 9), y -> y.cut(9, 9), y -> y.boards(9, 9), y -> y.day(9), y -> y.stands(9), y -> y.best(99),
                y -> y.built(99), y -> y.tracks(-1, 0), y -> y.sorted(99), y -> y.places(9, 0), y -> y.drawn(9, 9), y -> y.count(99)};
            for (int k = 0; k < wrong.length; k++) {
                due.is("NONE " + k, wrong[k].on(x), NONE);
                due.is("no refusal " + k, x.status(), 0);
            }
        });
        Due.test("39 the 512th call is answered", due -> {
            FolioStair x = new FolioStair();
            for (int call = 1; call < 512; call++) x.tread(0, 0);
            due.is("status", x.status(), -1);
        });
    }

    private static int row(FolioStair x) {
        Due.bytes(x, 1, 1, 0);
        return x.row();
    }
}
