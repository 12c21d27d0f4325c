/** Holds answers against those that are due, and counts the tests that passed. */
final class Due {
    private final String test;
    private int wrong = 0;
    private static int passed = 0;
    private static int failed = 0;

    private Due(String test) { this.test = test; }

    interface Body { void run(Due due); }

    static void test(String name, Body body) {
        Due due = new Due(name);
        try {
            body.run(due);
        } catch (RuntimeException | StackOverflowError thrown) {
            due.wrong++;
            System.out.println(name + ": threw " + thrown);
        }
        if (due.wrong == 0) passed++;
        else failed++;
    }

    void is(String what, int got, int want) {
        if (got != want) {
            wrong++;
            System.out.println(test + ": " + what + " answered " + got + ", due is " + want);
        }
    }

    void yes(String what, boolean so) { is(what, so ? 1 : 0, 1); }

    /** The plain closing line; exit code 1 if a test failed. */
    static void close() {
        System.out.println(passed + " passed, " + failed + " failed");
        if (failed > 0) System.exit(1);
    }

    /** Puts a text on an empty TAPE. */
    static void text(FolioStair x, String text) {
        x.end(0);
        for (int at = 0; at < text.length(); at += 20) {
            int[] five = new int[5];
            for (int k = 0; k < 20; k++) five[k / 4] = five[k / 4] << 8 | (at + k < text.length() ? text.charAt(at + k) & 255 : 32);
            x.feed(five[0], five[1], five[2], five[3], five[4]);
        }
        x.end(text.length());
    }

    static void bytes(FolioStair x, int... bytes) {
        StringBuilder text = new StringBuilder();
        for (int b : bytes) text.append((char) b);
        text(x, text.toString());
    }

    static int law(FolioStair x, String text) {
        text(x, text);
        return x.law();
    }

    /** A stair of these THICK, all of which BEAR 99. */
    static FolioStair stair(int... thick) {
        FolioStair x = new FolioStair();
        for (int t : thick) x.tread(t, 99);
        return x;
    }
}
