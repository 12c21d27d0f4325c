import java.util.Random;

/** Any numbers in any call in any state: no call throws, and what the calls make stays small. */
public final class AnyNumbers {
    private static final int[] EDGES = {Integer.MIN_VALUE, Integer.MIN_VALUE + 1, -2, -1, 0, 1, 2, 3, 5, 6, 9, 11, 12, 13,
        31, 32, 33, 63, 64, 99, 100, 400, 4095, 4096, 1000000, Integer.MAX_VALUE - 1, Integer.MAX_VALUE};

    public static void main(String[] args) {
        Due.test("any numbers", due -> {
            for (int run = 0; run < 400; run++) {
                Random draw = new Random(run);
                FolioStair x = new FolioStair();
                for (int call = 0; call < 512; call++) any(x, draw);
            }
        });
        Due.test("512 of the dearest laws, and of searches, stay in the room", due -> {
            com.sun.management.ThreadMXBean bean =
                    (com.sun.management.ThreadMXBean) java.lang.management.ManagementFactory.getThreadMXBean();
            long was = bean.getCurrentThreadAllocatedBytes();
            FolioStair x = full();
            long made = bean.getCurrentThreadAllocatedBytes() - was;
            due.yes("an object: " + made, made < 200_000);
            int[] five = fiveOf("bars if1=1or1=1or1=1");
            was = bean.getCurrentThreadAllocatedBytes();
            for (int round = 0; round < 20; round++) {
                for (int k = 0; k < 20; k++) x.feed(five[0], five[1], five[2], five[3], five[4]);
                x.end(20);
                x.law();
                for (int k = 0; k < 4; k++) {
                    x.best(0);
                    x.days(5, 20);
                    x.free(0, 3);
                    x.cut(0, 0);
                    x.tracks(0, 0);
                    x.image(0);
                    x.back(0);
                }
            }
            made = bean.getCurrentThreadAllocatedBytes() - was;
            due.yes("the calls: " + made, made < 200_000);
        });
        Due.close();
    }

    private static FolioStair full() {
        FolioStair x = new FolioStair();
        for (int t = 0; t < 12; t++) x.tread(1 + t % 3, 90);
        for (int r = 0; r < 6; r++) x.reader(4 + r, 30);
        for (int a = 0; a < 7; a++) x.ask(a % 6, 11 - a);
        return x;
    }

    private static int[] fiveOf(String text) {
        int[] five = new int[5];
        for (int k = 0; k < 20; k++) five[k / 4] = five[k / 4] << 8 | text.charAt(k);
        return five;
    }

    private static int number(Random draw) {
        return draw.nextInt(8) == 0 ? draw.nextInt() : draw.nextInt(3) == 0 ? EDGES[draw.nextInt(EDGES.length)] : draw.nextInt(10);
    }

    private static void any(FolioStair x, Random draw) {
        int a = number(draw);
        int b = number(draw);
        int c = number(draw);
        if (draw.nextInt(12) == 0) {
            String text = new LawTexts(draw).text();
            Due.text(x, text.length() > 400 ? text.substring(0, 400) : text);
            x.law();
            x.force(draw.nextInt(7) - 1);
            return;
        }
        switch (draw.nextInt(38)) {
            case 0 -> x.tread(a, b);
            case 1 -> x.put(a, b, c);
            case 2 -> x.of(a, b);
            case 3 -> x.reader(a, b);
            case 4 -> x.turn(a, b, c);
            case 5 -> x.terms(a, b);
            case 6 -> x.feed(a, b, c, a, b);
            case 7 -> x.end(a);
            case 8 -> x.row();
            case 9 -> x.torn();
            case 10 -> x.law();
            case 11 -> x.fault();
            case 12 -> x.force(a);
            case 13 -> x.carries(a, b);
            case 14 -> x.comes(a);
            case 15 -> x.way(a, b, c);
            case 16 -> x.free(a, b);
            case 17 -> x.cut(a, b);
            case 18 -> x.boards(a, b);
            case 19 -> x.ask(a, b);
            case 20 -> x.drop(a);
            case 21 -> x.day(a);
            case 22 -> x.stands(a);
            case 23 -> x.best(a);
            case 24 -> x.built(a);
            case 25 -> x.build();
            case 26 -> x.swap(a, b);
            case 27 -> x.tracks(a, b);
            case 28 -> x.sorted(a);
            case 29 -> x.toe(a);
            case 30 -> x.lift();
            case 31 -> x.places(a, b);
            case 32 -> x.days(a, b);
            case 33 -> x.drawn(a, b);
            case 34 -> x.image(a);
            case 35 -> x.back(a);
            case 36 -> x.count(a);
            default -> x.status();
        }
    }
}
