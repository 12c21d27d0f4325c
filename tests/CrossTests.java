import java.util.ArrayList;
import java.util.List;
import java.util.Random;

/**
 * What one call tells, held against what other calls tell: a BEST against the day of each ORDER, a BUILT against the
 * day of each stair, FREE, CUT and BOARDS against comes() with each set, DAYS against the day of the drawn askings. So
 * these promises are told by one another, without the Oracle's reading of the document.
 */
public final class CrossTests {
    private static final int NONE = -1;
    private static final String[] LAWS = {"", "bars if level>12", "bears bears-level", "bars if tread=1", "bears 99 if dust>5;bears 9*thick",
        "bars if reader=1 and thick<3 or dust=9", "bears 60 if tread=0 or level>9;bars if not(level<20)", "bears level*8",
        "bears 50+tread*10 if 9/dust>2", "bars if level=4 or level=7 or tread>4"};

    /** What is told to an object: BOOKS of THICK, BEARS, DUST, OUT; READERS of STRIDE, WEIGHT; ASKINGS of READER, TREAD. */
    private record Plan(int[][] books, int[][] readers, int drop, String law, int[][] askings) {
        FolioStair made() {
            FolioStair x = new FolioStair();
            for (int t = 0; t < books.length; t++) {
                x.tread(books[t][0], books[t][1]);
                x.put(t, 2, books[t][2]);
                x.put(t, 3, books[t][3]);
            }
            for (int[] r : readers) x.reader(r[0], r[1]);
            x.terms(1, drop);
            if (!law.isEmpty()) x.force(Due.law(x, law));
            if (x.status() != 0) throw new IllegalStateException("this can not be told: " + this);
            for (int[] a : askings) x.ask(a[0], a[1]);
            return x;
        }

        Plan asking(int[][] others) { return new Plan(books, readers, drop, law, others); }

        /** The BOOKS in a row of BOOKS by TREADS; ASKINGS want the same BOOKS. */
        Plan laid(List<Integer> row) {
            int[][] there = new int[books.length][];
            for (int t = 0; t < there.length; t++) there[t] = books[row.get(t)];
            int[][] moved = new int[askings.length][];
            for (int a = 0; a < moved.length; a++) moved[a] = new int[] {askings[a][0], row.indexOf(askings[a][1])};
            return new Plan(there, readers, drop, law, moved);
        }

        @Override public String toString() {
            return java.util.Arrays.deepToString(books) + java.util.Arrays.deepToString(readers) + " DROP " + drop + " " + law + " "
                    + java.util.Arrays.deepToString(askings);
        }
    }

    private static Plan drawn(Random draw, int mostTreads, int mostAskings) {
        int[][] books = new int[1 + draw.nextInt(mostTreads)][];
        int thickest = draw.nextBoolean() ? 9 : 4;
        for (int t = 0; t < books.length; t++) {
            books[t] = new int[] {1 + draw.nextInt(thickest), 40 + draw.nextInt(60), draw.nextInt(10), draw.nextInt(6) == 0 ? 1 : 0};
        }
        int[][] readers = new int[1 + draw.nextInt(4)][];
        for (int r = 0; r < readers.length; r++) readers[r] = new int[] {1 + draw.nextInt(14), 1 + draw.nextInt(60)};
        int[][] askings = new int[draw.nextInt(mostAskings + 1)][];
        for (int a = 0; a < askings.length; a++) askings[a] = new int[] {draw.nextInt(readers.length), draw.nextInt(books.length)};
        return new Plan(books, readers, draw.nextInt(3) * 4, LAWS[draw.nextInt(LAWS.length)], askings);
    }

    private interface Check { void of(Due due, Plan plan); }

    private static void each(String name, int plans, int mostTreads, int mostAskings, Check check) {
        Due.test(name, due -> {
            for (int seed = 0; seed < plans; seed++) check.of(due, drawn(new Random(seed), mostTreads, mostAskings));
        });
    }

    public static void main(String[] args) {
        each("16, 17 comes, way: by LEVELS, what is in and what carries", 300, 6, 0, CrossTests::ways);
        each("18 free: comes() with each set OUT", 60, 6, 0, CrossTests::free);
        each("19 cut: comes() with each set OUT", 60, 6, 0, CrossTests::cut);
        each("20 boards: comes() with each set filled", 200, 6, 0, CrossTests::boards);
        each("23, 24 day, stands: comes() and carries() with what is OUT", 300, 6, 7, CrossTests::firstAsking);
        each("25 best: the day of each ORDER", 150, 7, 5, CrossTests::best);
        each("26 built: the day of each stair", 150, 5, 5, CrossTests::built);
        each("26 built: the day of each stair of six", 6, 6, 6, CrossTests::built);
        each("27 build: the first BUILT", 200, 5, 6, CrossTests::build);
        each("28 swap: as if told so at first", 200, 7, 6, CrossTests::swap);
        each("29 tracks: by each READER's way()", 200, 6, 0, CrossTests::tracks);
        each("30 sorted: by THICK", 300, 9, 0, CrossTests::sorted);
        each("33 places: by THICK", 300, 9, 0, CrossTests::places);
        each("34, 35 days, drawn: the day of the askings drawn", 150, 7, 0, CrossTests::days);
        each("36, 37 image, back: as if told so at first", 150, 7, 6, CrossTests::back);
        Due.close();
    }

    private static int top(Plan p) { return 1 << p.books.length - 1; }

    /** Where a READER can STAND, as calls tell it: told once, as an object answers 512 calls. */
    private record Stair(int[] levels, boolean[] stands, int up, int down) {
        static Stair of(Plan p, int r) {
            FolioStair x = p.made();
            int[] levels = new int[p.books.length];
            boolean[] stands = new boolean[p.books.length];
            for (int t = 0; t < levels.length; t++) {
                levels[t] = x.of(t, 4);
                stands[t] = x.of(t, 3) == 0 && x.carries(t, r) == 1;
            }
            return new Stair(levels, stands, p.readers[r][0], p.readers[r][0] + p.drop);
        }

        /** Rows of TREADS by STEPS from the last one, the first from the GROUND, no TREAD twice. */
        void rows(List<Integer> row, List<List<Integer>> all) {
            all.add(new ArrayList<>(row));
            int level = row.isEmpty() ? 0 : levels[row.get(row.size() - 1)];
            for (int t = 0; t < levels.length; t++) {
                if (!row.contains(t) && stands[t] && levels[t] - level <= up && level - levels[t] <= down) {
                    row.add(t);
                    rows(row, all);
                    row.remove(row.size() - 1);
                }
            }
        }
    }

    private static boolean ahead(List<Integer> one, List<Integer> other) {
        if (one.size() != other.size()) return one.size() < other.size();
        for (int k = 0; k < one.size(); k++) if (!one.get(k).equals(other.get(k))) return one.get(k) < other.get(k);
        return false;
    }

    private static void ways(Due due, Plan p) {
        for (int r = 0; r < p.readers.length; r++) {
            List<List<Integer>> all = new ArrayList<>();
            Stair.of(p, r).rows(new ArrayList<>(), all);
            FolioStair x = p.made();
            int comes = 0;
            for (int t = 0; t < p.books.length; t++) {
                List<Integer> way = null;
                for (List<Integer> row : all) {
                    boolean there = !row.isEmpty() && row.get(row.size() - 1) == t;
                    if (there && (way == null || ahead(row, way))) way = row;
                }
                due.is("STEPS to " + t + " of " + p, x.way(r, t, NONE), way == null ? NONE : way.size());
                for (int i = 0; way != null && i <= way.size(); i++) {
                    due.is("TREAD " + i + " to " + t + " of " + p, x.way(r, t, i), i < way.size() ? way.get(i) : NONE);
                }
                comes |= way == null ? 0 : 1 << t;
            }
            due.is("comes, " + p, x.comes(r), comes);
        }
    }

    /** Sets of TREADS by whose being OUT, or in, comes() tells the TOP, or does not. */
    private static List<Integer> sets(Plan p, int r, int among, int out, boolean comes) {
        List<Integer> good = new ArrayList<>();
        for (int set = 0; set <= among; set++) {
            if ((set & among) == set) {
                FolioStair x = p.made();
                for (int t = 0; t < p.books.length; t++) if ((set >> t & 1) == 1) x.put(t, 3, out);
                if ((x.comes(r) & top(p)) != 0 == comes) good.add(set);
            }
        }
        return good;
    }

    private static int[] told(List<Integer> sets, boolean most) {
        int[] told = {NONE, NONE, 0, sets.size()};
        for (int set : sets) {
            int size = Integer.bitCount(set);
            if (told[2] == 0 || (most ? size > told[0] : size < told[0])) {
                told = new int[] {size, set, 0, sets.size()};
            }
            if (size == told[0]) told[2]++;
        }
        return told;
    }

    private static int in(Plan p) {
        int bits = 0;
        for (int t = 0; t < p.books.length; t++) bits |= p.books[t][3] == 0 ? 1 << t : 0;
        return bits;
    }

    private static void free(Due due, Plan p) {
        for (int r = 0; r < p.readers.length; r++) {
            int[] told = told(sets(p, r, in(p) & ~top(p), 1, true), true);
            FolioStair x = p.made();
            for (int what = 0; what < 4; what++) due.is("free " + what + " " + p, x.free(r, what), told[what]);
        }
    }

    private static void cut(Due due, Plan p) {
        for (int r = 0; r < p.readers.length; r++) {
            int[] told = told(sets(p, r, in(p) & ~top(p), 1, false), false);
            FolioStair x = p.made();
            for (int what = 0; what < 3; what++) due.is("cut " + what + " " + p, x.cut(r, what), told[what]);
        }
    }

    private static void boards(Due due, Plan p) {
        for (int[] book : p.books) book[3] = book[2] % 2;
        for (int r = 0; r < p.readers.length; r++) {
            int[] told = told(sets(p, r, ~in(p) & top(p) * 2 - 1, 0, true), false);
            FolioStair x = p.made();
            for (int what = 0; what < 3; what++) due.is("boards " + what + " " + p, x.boards(r, what), told[what]);
        }
    }

    /** One ASKING, from the GROUND: the nearest place by way(), of alike ones the lowest. */
    private static void firstAsking(Due due, Plan p) {
        for (int r = 0; r < p.readers.length; r++) {
            for (int want = 0; want < p.books.length; want++) {
                FolioStair x = p.asking(new int[][] {{r, want}}).made();
                int steps = x.of(want, 4) <= p.readers[r][0] ? 0 : 1000;
                int place = steps == 0 ? 100 : NONE;
                for (int t = 0; t < p.books.length; t++) {
                    int way = x.way(r, t, NONE);
                    boolean near = t != want && Math.abs(x.of(t, 4) - x.of(want, 4)) <= p.readers[r][0];
                    if (near && way != NONE && way < steps) {
                        steps = way;
                        place = t;
                    }
                }
                boolean served = x.of(want, 3) == 0 && place != NONE;
                due.is("served " + p, x.day(0), served ? 1 : 0);
                due.is("stands " + p, x.stands(r), served ? place : 100);
                due.is("out " + p, x.day(2), ~in(p) & top(p) * 2 - 1 | (served ? 1 << want : 0));
            }
        }
        told(due, p);
    }

    /** A day is the day ahead of the last ASKING, and then that one. */
    private static void told(Due due, Plan p) {
        if (p.askings.length == 0) return;
        int last = p.askings.length - 1;
        FolioStair x = p.made();
        FolioStair y = p.asking(java.util.Arrays.copyOf(p.askings, last)).made();
        int bits = (1 << last) - 1;
        due.is("served ahead of the last " + p, x.day(0) & bits, y.day(0));
        boolean served = x.day(0) >> last == 1;
        due.is("out " + p, x.day(2), y.day(2) | (served ? 1 << p.askings[last][1] : 0));
        for (int r = 0; r < p.readers.length; r++) {
            if (r != p.askings[last][0] || !served) due.is("stands " + p, x.stands(r), y.stands(r));
            if (x.stands(r) == 100) due.is("not stranded " + p, x.day(1) >> r & 1, 0);
            if (served) due.yes("nobody stood on it " + p, y.stands(r) != p.askings[last][1]);
        }
        if (served) due.is("it was in " + p, y.day(2) >> p.askings[last][1] & 1, 0);
    }

    private static List<List<Integer>> orders(int n) {
        List<List<Integer>> all = new ArrayList<>();
        orders(n, new ArrayList<>(), all);
        return all;
    }

    private static void orders(int n, List<Integer> row, List<List<Integer>> all) {
        if (row.size() == n) all.add(new ArrayList<>(row));
        for (int k = 0; k < n; k++) {
            if (!row.contains(k)) {
                row.add(k);
                orders(n, row, all);
                row.remove(row.size() - 1);
            }
        }
    }

    private interface Lay { Plan of(List<Integer> row); }

    /** SERVED, STRANDED, ways and the first row, by the day of each. */
    private static int[] finest(int n, Lay lay) {
        int[] finest = new int[3 + n];
        finest[0] = NONE;
        for (List<Integer> row : orders(n)) {
            FolioStair x = lay.of(row).made();
            int served = Integer.bitCount(x.day(0));
            int stranded = Integer.bitCount(x.day(1));
            if (served > finest[0] || served == finest[0] && stranded < finest[1]) {
                finest[0] = served;
                finest[1] = stranded;
                finest[2] = 0;
                for (int k = 0; k < n; k++) finest[3 + k] = row.get(k);
            }
            if (served == finest[0] && stranded == finest[1]) finest[2]++;
        }
        return finest;
    }

    private static void best(Due due, Plan p) {
        int[] finest = finest(p.askings.length, row -> {
            int[][] order = new int[row.size()][];
            for (int k = 0; k < order.length; k++) order[k] = p.askings[row.get(k)];
            return p.asking(order);
        });
        FolioStair x = p.made();
        for (int what = 0; what < finest.length; what++) due.is("best " + what + " " + p, x.best(what), finest[what]);
        due.is("behind " + p, x.best(finest.length), NONE);
    }

    private static void built(Due due, Plan p) {
        int[] finest = finest(p.books.length, p::laid);
        FolioStair x = p.made();
        for (int what = 0; what < finest.length; what++) due.is("built " + what + " " + p, x.built(what), finest[what]);
        due.is("behind " + p, x.built(finest.length), NONE);
    }

    private static void build(Due due, Plan p) {
        FolioStair x = p.made();
        List<Integer> row = new ArrayList<>();
        int elsewhere = 0;
        for (int t = 0; t < p.books.length; t++) {
            row.add(x.built(3 + t));
            elsewhere += row.get(t) == t ? 0 : 1;
        }
        int served = x.built(0);
        int stranded = x.built(1);
        int ways = x.built(2);
        due.is("build " + p, x.build(), elsewhere);
        due.is("status " + p, x.status(), 0);
        alike(due, x, p.laid(row));
        due.is("served " + p, Integer.bitCount(x.day(0)), served);
        due.is("stranded " + p, Integer.bitCount(x.day(1)), stranded);
        due.is("as many ways " + p, x.built(2), ways);
    }

    /** An object tells what a new one tells to which a plan is told. */
    private static void alike(Due due, FolioStair x, Plan p) {
        FolioStair y = p.made();
        for (int t = 0; t < p.books.length; t++) for (int what = 0; what < 5; what++) due.is("of " + p, x.of(t, what), y.of(t, what));
        for (int r = 0; r < p.readers.length; r++) {
            due.is("comes " + p, x.comes(r), y.comes(r));
            due.is("stands " + p, x.stands(r), y.stands(r));
        }
        for (int what = 0; what < 3; what++) due.is("day " + p, x.day(what), y.day(what));
        for (int what = 0; what < 10; what++) due.is("best " + p, x.best(what), y.best(what));
        for (int what = 0; what < 9; what++) due.is("built " + p, x.built(what), y.built(what));
    }

    private static void swap(Due due, Plan p) {
        int last = p.books.length - 1;
        int one = p.books[0][2] % p.books.length;
        int other = one == last ? 0 : last;
        if (one == other) return;
        List<Integer> row = new ArrayList<>();
        for (int t = 0; t <= last; t++) row.add(t == one ? other : t == other ? one : t);
        FolioStair x = p.made();
        x.best(0);
        x.built(0);
        due.is("swap " + p, x.swap(one, other), 0);
        alike(due, x, p.laid(row));
    }

    private static void tracks(Due due, Plan p) {
        FolioStair x = p.made();
        int[] ways = new int[p.readers.length];
        for (int r = 0; r < ways.length; r++) {
            int steps = x.way(r, p.books.length - 1, NONE);
            ways[r] = steps == NONE ? NONE : 0;
            for (int i = 0; i < steps; i++) ways[r] |= 1 << x.way(r, p.books.length - 1, i);
        }
        for (int treads = 0; treads < 1 << p.books.length; treads++) {
            List<Integer> good = new ArrayList<>();
            int all = (1 << ways.length) - 1;
            for (int set = 0; set < 1 << ways.length; set++) {
                int together = 0;
                for (int r = 0; r < ways.length; r++) together |= (set >> r & 1) == 1 ? ways[r] : 0;
                if (together == treads) good.add(set);
            }
            for (int set : good) all &= set;
            due.is("sets " + p, x.tracks(treads, 0), good.size());
            due.is("fewest " + p, x.tracks(treads, 1), told(good, false)[1]);
            due.is("in all " + p, x.tracks(treads, 2), good.isEmpty() ? NONE : all);
        }
    }

    private static void sorted(Due due, Plan p) {
        List<Integer> stay = new ArrayList<>();
        for (int set = 0; set < 1 << p.books.length; set++) {
            List<Integer> row = new ArrayList<>();
            boolean falls = true;
            for (int t = 0; t < p.books.length; t++) {
                if ((set >> t & 1) == 1) {
                    falls &= row.isEmpty() || p.books[row.get(row.size() - 1)][0] >= p.books[t][0];
                    row.add(t);
                }
            }
            boolean first = row.size() > stay.size() || row.size() == stay.size() && ahead(row, stay);
            if (falls && first) stay = row;
        }
        FolioStair x = p.made();
        due.is("moved " + p, x.sorted(NONE), p.books.length - stay.size());
        for (int i = 0; i < stay.size(); i++) due.is("stays " + p, x.sorted(i), stay.get(i));
        due.is("behind " + p, x.sorted(stay.size()), NONE);
    }

    private static void places(Due due, Plan p) {
        FolioStair x = p.made();
        int[] toes = new int[1 + p.books[0][2] % 3];
        for (int k = 0; k < toes.length; k++) {
            toes[k] = p.books[p.books[0][1] % p.books.length][0];
            x.toe(toes[k]);
        }
        for (int off = 0; off < 9; off++) {
            int found = 0;
            for (int t = 0; t + toes.length <= p.books.length; t++) {
                boolean so = true;
                for (int k = 0; k < toes.length; k++) so &= Math.abs(p.books[t + k][0] - toes[k]) <= off;
                if (so) due.is("place " + p, x.places(off, found++), t);
            }
            due.is("places " + p, x.places(off, NONE), found);
            due.is("behind " + p, x.places(off, found), NONE);
        }
    }

    private static void days(Due due, Plan p) {
        FolioStair x = p.made();
        int seed = p.books[0][1] * 10101;
        int n = 1 + p.books[0][2];
        int all = x.days(seed, n);
        long s = seed;
        for (int day = 0; day < n; day++) {
            int[][] askings = new int[6][];
            for (int a = 0; a < 6; a++) {
                s = (s * 1103 + 12345) % 1000003;
                int reader = (int) (s % p.readers.length);
                s = (s * 1103 + 12345) % 1000003;
                askings[a] = new int[] {reader, (int) (s % p.books.length)};
            }
            FolioStair y = p.asking(askings).made();
            int served = Integer.bitCount(y.day(0));
            due.is("served " + p, x.drawn(day, 0), served);
            due.is("stranded " + p, x.drawn(day, 1), y.day(1));
            due.is("out " + p, x.drawn(day, 2), y.day(2));
            all -= served;
        }
        due.is("in all " + p, all, 0);
        due.is("no more " + p, x.drawn(n, 0), NONE);
    }

    /** BACK to an IMAGE, whatever was told since. */
    private static void back(Due due, Plan p) {
        FolioStair x = p.made();
        x.image(1);
        x.best(0);
        x.built(0);
        for (int t = 0; t < p.books.length; t++) {
            x.put(t, 0, 10 - p.books[t][0]);
            x.put(t, 1, 1 + t);
            x.put(t, 2, 9 - p.books[t][2]);
            x.put(t, 3, 1 - p.books[t][3]);
        }
        x.tread(1, 1);
        for (int r = 0; r < p.readers.length; r++) {
            x.turn(r, 0, 41 - p.readers[r][0]);
            x.turn(r, 1, 100 - p.readers[r][1]);
        }
        x.reader(9, 9);
        x.terms(1, 9);
        x.force(Due.law(x, "bars"));
        x.drop(0);
        x.ask(0, p.books.length);
        x.swap(0, p.books.length);
        x.best(0);
        x.built(0);
        due.is("back " + p, x.back(1), 0);
        alike(due, x, p);
        due.is("treads " + p, x.count(0), p.books.length);
        due.is("readers " + p, x.count(1), p.readers.length);
        due.is("askings " + p, x.count(3), p.askings.length);
        due.is("law " + p, x.count(12), p.law.isEmpty() ? NONE : 0);
        due.is("drop " + p, x.count(14), p.drop);
    }
}
