import java.util.ArrayList;
import java.util.List;
import java.util.Random;

/** Runs of calls drawn from told seeds, each answer held against the Oracle's. Arguments: how many runs, the first seed. */
public final class RandomRuns {
    private static final String[] CALLS = {
        "tread", "put", "of", "reader", "turn", "terms", "feed", "end", "row", "torn", "law", "fault", "force",
        "carries", "comes", "way", "free", "cut", "boards", "ask", "drop", "day", "stands", "best", "built", "build",
        "swap", "tracks", "sorted", "toe", "lift", "places", "days", "drawn", "image", "back", "count", "status"};

    private final Random draw;
    private final FolioStair mine = new FolioStair();
    private final Oracle due = new Oracle();
    private final List<String> told = new ArrayList<>();
    private final int size;
    private final int thickest;
    private final int widest;
    private final int mostAskings;
    private int wrong = 0;

    private RandomRuns(long seed) {
        draw = new Random(seed);
        size = draw.nextInt(100) < 70 ? 1 + draw.nextInt(6) : 7 + draw.nextInt(7);
        thickest = draw.nextBoolean() ? 9 : 1 + draw.nextInt(4);
        widest = draw.nextInt(4) == 0 ? 40 : 3 + draw.nextInt(10);
        mostAskings = draw.nextInt(20) == 0 ? 8 : 4 + draw.nextInt(2);
    }

    public static void main(String[] args) {
        int runs = args.length > 0 ? Integer.parseInt(args[0]) : 400;
        long first = args.length > 1 ? Long.parseLong(args[1]) : 1;
        int failed = 0;
        for (int run = 0; run < runs && failed < 5; run++) {
            RandomRuns one = new RandomRuns(first + run);
            one.play(100 + one.draw.nextInt(300));
            if (one.wrong > 0) {
                failed++;
                System.out.println("seed " + (first + run) + ":");
                for (String line : one.told) System.out.println("  " + line);
            }
        }
        System.out.println("random runs: " + (runs - failed) + " of " + runs + " as the Oracle has them");
        if (failed > 0) System.exit(1);
    }

    private void play(int calls) {
        int treads = draw.nextInt(size + 1);
        for (int i = 0; i < treads; i++) call("tread");
        for (int i = draw.nextInt(5); i > 0; i--) call("reader");
        for (int i = draw.nextInt(3); i > 0; i--) law();
        for (int i = draw.nextInt(mostAskings + 1); i > 0; i--) call("ask");
        // A LAW takes some thirty calls, and 512 are promised.
        for (int i = 0; i < calls && wrong == 0 && told.size() < 480; i++) {
            if (draw.nextInt(25) == 0) law();
            else if (draw.nextInt(25) == 0) row();
            else call(CALLS[draw.nextInt(CALLS.length)]);
        }
    }

    /** Mostly between the bounds, at times just beyond them, now and then anything. */
    private int from(int low, int high) {
        int odds = draw.nextInt(60);
        if (odds == 0) return low - 1;
        if (odds == 1) return high + 1;
        if (odds == 2) return draw.nextInt(4) == 0 ? draw.nextInt() : draw.nextBoolean() ? Integer.MAX_VALUE : Integer.MIN_VALUE;
        return low > high ? low : low + draw.nextInt(high - low + 1);
    }

    private int aTread() { return from(0, due.state.books.size() - 1); }
    private int aReader() { return from(0, due.state.readers.size() - 1); }

    private void check(String call, int got, int want) {
        told.add(call + " -> " + got + (got == want ? "" : ", due is " + want));
        if (got != want) wrong++;
    }

    private void call(String name) {
        switch (name) {
            case "tread" -> { if (due.state.books.size() < size || draw.nextInt(20) == 0) {
                int a = from(1, thickest), b = draw.nextInt(4) == 0 ? from(1, 30) : from(30, 99);
                check("tread(" + a + "," + b + ")", mine.tread(a, b), due.tread(a, b)); } }
            case "put" -> {
                int t = aTread(), w = draw.nextBoolean() ? 3 : from(0, 3);
                int v = w == 0 ? from(1, thickest) : w == 1 ? from(1, 99) : w == 2 ? from(0, 9) : from(0, 1);
                if (w == 3 && v == 1 && draw.nextInt(3) > 0) v = 0;
                check("put(" + t + "," + w + "," + v + ")", mine.put(t, w, v), due.put(t, w, v)); }
            case "of" -> { int t = aTread(), w = from(0, 4);
                check("of(" + t + "," + w + ")", mine.of(t, w), due.of(t, w)); }
            case "reader" -> { int s = from(1, widest), w = draw.nextInt(3) == 0 ? from(1, 99) : from(1, 40);
                check("reader(" + s + "," + w + ")", mine.reader(s, w), due.reader(s, w)); }
            case "turn" -> { int r = aReader(), w = from(0, 1), v = w == 0 ? from(1, widest) : from(1, 60);
                check("turn(" + r + "," + w + "," + v + ")", mine.turn(r, w, v), due.turn(r, w, v)); }
            case "terms" -> { int w = from(0, 1), v = w == 0 ? from(0, 23) : from(0, 9);
                check("terms(" + w + "," + v + ")", mine.terms(w, v), due.terms(w, v)); }
            case "feed" -> { if (draw.nextInt(4) == 0) feed(draw.nextInt(), draw.nextInt(), draw.nextInt(), draw.nextInt(), draw.nextInt()); }
            case "end" -> { int n = from(0, due.tape.size()); check("end(" + n + ")", mine.end(n), due.end(n)); }
            case "row" -> check("row()", mine.row(), due.row());
            case "torn" -> check("torn()", mine.torn(), due.torn());
            case "law" -> check("law()", mine.law(), due.law());
            case "fault" -> check("fault()", mine.fault(), due.fault());
            case "force" -> { int l = from(-1, due.state.laws.size() - 1); check("force(" + l + ")", mine.force(l), due.force(l)); }
            case "carries" -> { int t = aTread(), r = aReader();
                check("carries(" + t + "," + r + ")", mine.carries(t, r), due.carries(t, r)); }
            case "comes" -> { int r = aReader(); check("comes(" + r + ")", mine.comes(r), due.comes(r)); }
            case "way" -> { int r = aReader(), t = aTread(), i = from(-1, 5);
                check("way(" + r + "," + t + "," + i + ")", mine.way(r, t, i), due.way(r, t, i)); }
            default -> sets(name);
        }
    }

    private void sets(String name) {
        int r = aReader();
        switch (name) {
            case "free" -> { if (affordable()) { int w = from(0, 3); check("free(" + r + "," + w + ")", mine.free(r, w), due.free(r, w)); } }
            case "cut" -> { if (affordable()) { int w = from(0, 2); check("cut(" + r + "," + w + ")", mine.cut(r, w), due.cut(r, w)); } }
            case "boards" -> { int w = from(0, 2); check("boards(" + r + "," + w + ")", mine.boards(r, w), due.boards(r, w)); }
            case "ask" -> { if (due.state.askings.size() < mostAskings) {
                int t = aTread(); check("ask(" + r + "," + t + ")", mine.ask(r, t), due.ask(r, t)); } }
            case "drop" -> { if (draw.nextInt(3) == 0) { int a = from(0, due.state.askings.size() - 1); check("drop(" + a + ")", mine.drop(a), due.drop(a)); } }
            case "day" -> { int w = from(0, 2); check("day(" + w + ")", mine.day(w), due.day(w)); }
            case "stands" -> check("stands(" + r + ")", mine.stands(r), due.stands(r));
            case "best" -> { if (due.state.askings.size() < 6 || draw.nextInt(12) == 0) {
                int w = from(0, 9); check("best(" + w + ")", mine.best(w), due.best(w)); } }
            case "built" -> { if (due.state.books.size() != 6 || draw.nextInt(6) == 0) {
                int w = from(0, 8); check("built(" + w + ")", mine.built(w), due.built(w)); } }
            case "build" -> { if (draw.nextInt(6) == 0) check("build()", mine.build(), due.build()); }
            default -> rest(name);
        }
    }

    private boolean affordable() { return due.state.books.size() < 9 || draw.nextInt(10) == 0; }

    private void rest(String name) {
        switch (name) {
            case "swap" -> { int a = aTread(), b = aTread(); check("swap(" + a + "," + b + ")", mine.swap(a, b), due.swap(a, b)); }
            case "tracks" -> { int t = tracksBits(), w = from(0, 2); check("tracks(" + t + "," + w + ")", mine.tracks(t, w), due.tracks(t, w)); }
            case "sorted" -> { int i = from(-1, 6); check("sorted(" + i + ")", mine.sorted(i), due.sorted(i)); }
            case "toe" -> { if (due.state.toes.size() < 3 || draw.nextInt(4) == 0) { int k = from(1, thickest); check("toe(" + k + ")", mine.toe(k), due.toe(k)); } }
            case "lift" -> { if (draw.nextInt(3) == 0) check("lift()", mine.lift(), due.lift()); }
            case "places" -> { int o = from(0, draw.nextInt(9)), i = from(-1, 4); check("places(" + o + "," + i + ")", mine.places(o, i), due.places(o, i)); }
            case "days" -> { int s = from(0, 1000000), n = from(1, draw.nextInt(3) == 0 ? 20 : 3);
                check("days(" + s + "," + n + ")", mine.days(s, n), due.days(s, n)); }
            case "drawn" -> { int i = from(0, 4), w = from(0, 2); check("drawn(" + i + "," + w + ")", mine.drawn(i, w), due.drawn(i, w)); }
            case "image" -> { if (draw.nextInt(3) == 0) { int k = from(0, 1); check("image(" + k + ")", mine.image(k), due.image(k)); } }
            case "back" -> { if (draw.nextInt(4) == 0) { int k = from(0, 1); check("back(" + k + ")", mine.back(k), due.back(k)); } }
            case "count" -> { int w = from(0, 14); check("count(" + w + ")", mine.count(w), due.count(w)); }
            default -> check("status()", mine.status(), due.status());
        }
    }

    /** Mostly the bits of a READER's WAY, so that there are sets. */
    private int tracksBits() {
        int n = due.state.books.size();
        if (n == 0 || draw.nextInt(4) == 0) return from(0, (1 << n) - 1);
        int bits = 0;
        for (int r = 0; r < due.state.readers.size(); r++) {
            List<Integer> way = due.new Walk(due.state.books).way(r, n - 1);
            if (way != null && draw.nextBoolean()) for (int t : way) bits |= 1 << t;
        }
        return bits;
    }

    private void feed(int a, int b, int c, int d, int e) {
        check("feed(" + a + "," + b + "," + c + "," + d + "," + e + ")", mine.feed(a, b, c, d, e), due.feed(a, b, c, d, e));
    }

    private void bytes(String text) {
        check("end(0)", mine.end(0), due.end(0));
        String all = text.length() > 400 ? text.substring(0, 400) : text;
        told.add("# " + all);
        for (int at = 0; at < all.length(); at += 20) {
            int[] five = new int[5];
            for (int k = 0; k < 20; k++) five[k / 4] = five[k / 4] << 8 | (at + k < all.length() ? all.charAt(at + k) & 255 : 32);
            feed(five[0], five[1], five[2], five[3], five[4]);
        }
        check("end", mine.end(all.length()), due.end(all.length()));
    }

    private void row() {
        StringBuilder row = new StringBuilder();
        int three = 1 + draw.nextInt(2);
        for (int i = 0; i < three && due.state.books.size() + i < size; i++) {
            row.append((char) from8(1, thickest)).append((char) from8(1, 99)).append((char) from8(0, 9));
        }
        if (draw.nextInt(4) == 0) row.append((char) 3);
        bytes(row.toString());
        check("row()", mine.row(), due.row());
        check("torn()", mine.torn(), due.torn());
    }

    private int from8(int low, int high) { return from(low, high) & 255; }

    private void law() {
        String text = new LawTexts(draw).text();
        bytes(text);
        check("law()", mine.law(), due.law());
        check("fault()", mine.fault(), due.fault());
        int last = due.state.laws.size() - 1;
        if (draw.nextInt(3) > 0) check("force(" + last + ")", mine.force(last), due.force(last));
    }
}
