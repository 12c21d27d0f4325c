import java.util.Arrays;

/**
 * A library whose stair is its books: who can walk where on it, whose askings are served, and what
 * sets, orders and rows answer for it. The numbered promises of the document say what each call does.
 *
 * A place is a bit or an index where the GROUND is 0 and TREAD t is t + 1, so that the order of
 * places is the order of LEVELS.
 */
public final class FolioStair {
    public static final int NONE = -1;

    private static final int BAD_NUMBER = -1;
    private static final int NO_SUCH = -2;
    private static final int NOT_NOW = -3;
    private static final int NO_ROOM = -5;
    private static final int BAD_TEXT = -6;

    private static final int MOST_TREADS = 12;
    private static final int MOST_READERS = 6;
    private static final int MOST_LAWS = 6;
    private static final int MOST_ASKINGS = 7;
    private static final int MOST_TOES = 8;
    private static final int MOST_BUILT = 6;
    private static final int MOST_DAYS = 20;
    private static final int MOST_OFF = 8;
    private static final int IMAGES = 2;
    private static final int PLACES = MOST_TREADS + 1;
    private static final int TAPE_ROOM = 400;
    private static final int FED = 20;
    private static final int HIGHEST_SEED = 1_000_000;

    private static final int GROUND = 0;
    private static final int GROUND_TOLD = 100;

    private static final int THICK = 0;
    private static final int BEARS = 1;
    private static final int DUST = 2;
    private static final int OUT = 3;
    private static final int LEVEL = 4;
    private static final int[] BOOK_LOWEST = {1, 1, 0, 0};
    private static final int[] BOOK_HIGHEST = {9, 99, 9, 1};

    private static final int STRIDE = 0;
    private static final int WEIGHT = 1;
    private static final int[] READER_HIGHEST = {40, 99};

    private static final int HOUR = 0;
    private static final int DROP = 1;
    private static final int[] TERM_HIGHEST = {23, 9};

    private static final int WHO = 0;
    private static final int WANTED = 1;

    /** The row of BOOKS by TREADS when every BOOK is where it is. */
    private static final int[] IN_PLACE = {0, 1, 2, 3, 4, 5, 6, 7, 8, 9, 10, 11};

    private final Told told = new Told();
    private final Told[] images = {new Told(), new Told()};
    private final boolean[] kept = new boolean[IMAGES];
    private final Tape tape = new Tape();
    private final LawReader lawReader = new LawReader();
    private final Judge judge = new Judge();
    private final Scene scene = new Scene();
    private final Choice choice = new Choice();
    private final Orders orders = new Orders();
    private final Builds builds = new Builds();
    private final DayBook dayBook = new DayBook();
    private final int[] spareRow = new int[MOST_TREADS];
    private final int[] refusals = new int[7];
    private int torn;
    private int fault = NONE;
    private int status;

    public FolioStair() {
    }

    // ---- treads, readers, terms

    public int tread(int thick, int bears) {
        if (!isBookNumber(THICK, thick) || !isBookNumber(BEARS, bears)) {
            return refuse(BAD_NUMBER);
        }
        return added(told.addTread(thick, bears, 0));
    }

    public int put(int tread, int what, int value) {
        if (!isBookNumber(what, value)) {
            return refuse(BAD_NUMBER);
        }
        if (!told.hasTread(tread)) {
            return refuse(NO_SUCH);
        }
        return done(exchange(told.books[what], tread, value));
    }

    public int of(int tread, int what) {
        if (!told.hasTread(tread) || !within(what, THICK, LEVEL)) {
            return NONE;
        }
        return what == LEVEL ? told.levelOf(tread) : told.books[what][tread];
    }

    public int reader(int stride, int weight) {
        if (!isReaderNumber(STRIDE, stride) || !isReaderNumber(WEIGHT, weight)) {
            return refuse(BAD_NUMBER);
        }
        return added(told.addReader(stride, weight));
    }

    public int turn(int reader, int what, int value) {
        if (!isReaderNumber(what, value)) {
            return refuse(BAD_NUMBER);
        }
        if (!told.hasReader(reader)) {
            return refuse(NO_SUCH);
        }
        return done(exchange(told.readers[what], reader, value));
    }

    public int terms(int what, int value) {
        if (!within(what, HOUR, DROP) || !within(value, 0, TERM_HIGHEST[what])) {
            return refuse(BAD_NUMBER);
        }
        return done(exchange(told.terms, what, value));
    }

    // ---- the tape, rows and laws

    public int feed(int a, int b, int c, int d, int e) {
        if (tape.length + FED > TAPE_ROOM) {
            return NONE;
        }
        tape.addFour(a);
        tape.addFour(b);
        tape.addFour(c);
        tape.addFour(d);
        tape.addFour(e);
        return tape.length;
    }

    public int end(int n) {
        if (!within(n, 0, tape.length)) {
            return NONE;
        }
        tape.length = n;
        return n;
    }

    public int row() {
        if (tape.length == 0) {
            return refuse(BAD_TEXT);
        }
        int came = 0;
        torn = 0;
        for (int at = 0; at < tape.length; at += 3) {
            if (takeTread(at)) {
                came++;
            } else {
                torn++;
            }
        }
        tape.length = 0;
        return done(came);
    }

    public int torn() {
        return torn;
    }

    public int law() {
        if (told.lawCount >= MOST_LAWS) {
            tape.length = 0;
            return refuse(NO_ROOM);
        }
        Law law = lawReader.read(tape);
        fault = lawReader.fault;
        tape.length = 0;
        if (law == null) {
            return refuse(BAD_TEXT);
        }
        return added(told.addLaw(law));
    }

    public int fault() {
        return fault;
    }

    public int force(int law) {
        if (law != NONE && !within(law, 0, told.lawCount - 1)) {
            return refuse(NO_SUCH);
        }
        int was = told.inForce;
        told.inForce = law;
        return done(was);
    }

    // ---- walking

    public int carries(int tread, int reader) {
        if (!told.hasTread(tread) || !told.hasReader(reader)) {
            return NONE;
        }
        return judge.holdsUp(told, reader, tread, tread, told.levelOf(tread)) ? 1 : 0;
    }

    public int comes(int reader) {
        if (!told.hasReader(reader)) {
            return NONE;
        }
        lookAtOne(reader);
        return scene.reached(reader) >> 1;
    }

    public int way(int reader, int tread, int i) {
        if (!told.hasReader(reader) || !told.hasTread(tread)) {
            return NONE;
        }
        lookAtOne(reader);
        int steps = scene.findWay(reader, tread + 1);
        if (i == NONE) {
            return steps;
        }
        return within(i, 0, steps - 1) ? scene.wayTreads[i] : NONE;
    }

    public int free(int reader, int what) {
        return within(what, 0, 3) ? chosen(Choice.FREE, reader, what) : NONE;
    }

    public int cut(int reader, int what) {
        return within(what, 0, 2) ? chosen(Choice.CUT, reader, what) : NONE;
    }

    public int boards(int reader, int what) {
        return within(what, 0, 2) ? chosen(Choice.BOARDS, reader, what) : NONE;
    }

    // ---- askings

    public int ask(int reader, int tread) {
        if (!told.hasReader(reader) || !told.hasTread(tread)) {
            return refuse(NO_SUCH);
        }
        return added(told.addAsking(reader, tread));
    }

    public int drop(int asking) {
        if (!within(asking, 0, told.askingCount - 1)) {
            return refuse(NO_SUCH);
        }
        told.removeAsking(asking);
        return done(told.askingCount);
    }

    public int day(int what) {
        if (!within(what, 0, 2)) {
            return NONE;
        }
        int served = playAsTold();
        if (what == 0) {
            return served;
        }
        return what == 1 ? scene.strandedReaders() : scene.outTreads();
    }

    public int stands(int reader) {
        if (!told.hasReader(reader)) {
            return NONE;
        }
        playAsTold();
        int place = scene.where[reader];
        return place == GROUND ? GROUND_TOLD : place - 1;
    }

    public int best(int what) {
        if (!orders.score.fresh) {
            lookAtAll();
            orders.search(told, scene);
        }
        return orders.score.answer(what, told.askingCount);
    }

    public int built(int what) {
        if (told.treads > MOST_BUILT) {
            return NONE;
        }
        builds.search(told, scene, judge);
        return builds.score.answer(what, told.treads);
    }

    public int build() {
        if (told.treads > MOST_BUILT) {
            return refuse(NOT_NOW);
        }
        builds.search(told, scene, judge);
        int moved = 0;
        for (int tread = 0; tread < told.treads; tread++) {
            if (builds.score.first[tread] != tread) {
                moved++;
            }
        }
        told.rearrange(builds.score.first);
        return done(moved);
    }

    public int swap(int one, int other) {
        if (!told.hasTread(one) || !told.hasTread(other)) {
            return refuse(NO_SUCH);
        }
        if (one == other) {
            return refuse(NOT_NOW);
        }
        System.arraycopy(IN_PLACE, 0, spareRow, 0, MOST_TREADS);
        spareRow[one] = other;
        spareRow[other] = one;
        told.rearrange(spareRow);
        return done(0);
    }

    // ---- tracks, sorting, toes

    public int tracks(int treads, int what) {
        if (!within(treads, 0, (1 << told.treads) - 1) || !within(what, 0, 2)) {
            return NONE;
        }
        lookAtAll();
        int sets = 0;
        int fewest = NONE;
        int inAll = (1 << told.readerCount) - 1;
        for (int set = 0; set < 1 << told.readerCount; set++) {
            if (tracksOf(set) == treads) {
                sets++;
                inAll &= set;
                if (fewest == NONE || Integer.bitCount(set) < Integer.bitCount(fewest)) {
                    fewest = set;
                }
            }
        }
        if (what == 0) {
            return sets;
        }
        if (sets == 0) {
            return NONE;
        }
        return what == 1 ? fewest : inAll;
    }

    public int sorted(int i) {
        int stay = measureRuns();
        if (i == NONE) {
            return told.treads - stay;
        }
        if (!within(i, 0, stay - 1)) {
            return NONE;
        }
        int seen = NONE;
        int at = NONE;
        for (int tread = 0; tread < told.treads && seen < i; tread++) {
            if (spareRow[tread] == stay - seen - 1 && (at == NONE || told.canFollow(at, tread))) {
                at = tread;
                seen++;
            }
        }
        return at;
    }

    public int toe(int thick) {
        if (!isBookNumber(THICK, thick)) {
            return refuse(BAD_NUMBER);
        }
        return added(told.addToe(thick));
    }

    public int lift() {
        int were = told.toeCount;
        told.toeCount = 0;
        return were;
    }

    public int places(int off, int i) {
        if (!within(off, 0, MOST_OFF) || told.toeCount == 0 || i < NONE) {
            return NONE;
        }
        int found = 0;
        for (int tread = 0; tread < told.treads; tread++) {
            if (told.isFeltFrom(tread, off)) {
                if (found == i) {
                    return tread;
                }
                found++;
            }
        }
        return i == NONE ? found : NONE;
    }

    // ---- days, images, counts

    public int days(int seed, int n) {
        if (!within(seed, 0, HIGHEST_SEED) || !within(n, 1, MOST_DAYS)) {
            return refuse(BAD_NUMBER);
        }
        lookAtAll();
        return done(dayBook.spend(told, scene, seed, n));
    }

    public int drawn(int i, int what) {
        if (!within(i, 0, dayBook.length - 1) || !within(what, 0, 2)) {
            return NONE;
        }
        return dayBook.pages[what][i];
    }

    public int image(int k) {
        if (!within(k, 0, IMAGES - 1)) {
            return refuse(BAD_NUMBER);
        }
        images[k].copyFrom(told);
        kept[k] = true;
        return done(0);
    }

    public int back(int k) {
        if (!within(k, 0, IMAGES - 1)) {
            return refuse(BAD_NUMBER);
        }
        if (!kept[k]) {
            return refuse(NO_SUCH);
        }
        told.copyFrom(images[k]);
        return done(0);
    }

    public int count(int what) {
        switch (what) {
            case 0: return told.treads;
            case 1: return told.readerCount;
            case 2: return told.lawCount;
            case 3: return told.askingCount;
            case 4: return told.countOut();
            case 5: return told.toeCount;
            case 6: return tape.length;
            case 7: return refusals[-BAD_NUMBER];
            case 8: return refusals[-NO_SUCH];
            case 9: return refusals[-NOT_NOW];
            case 10: return refusals[-NO_ROOM];
            case 11: return refusals[-BAD_TEXT];
            case 12: return told.inForce;
            case 13: return told.terms[HOUR];
            case 14: return told.terms[DROP];
            default: return NONE;
        }
    }

    public int status() {
        return status;
    }

    // ---- what the calls share

    private int refuse(int why) {
        status = why;
        if (within(-why, 0, refusals.length - 1)) {
            refusals[-why]++;
        }
        return why;
    }

    /** Every call that can change what is told ends here, so that no search is answered from before it. */
    private int done(int answer) {
        status = 0;
        orders.score.fresh = false;
        builds.score.fresh = false;
        return answer;
    }

    private int added(int number) {
        return number == NONE ? refuse(NO_ROOM) : done(number);
    }

    private static boolean within(int value, int lowest, int highest) {
        return lowest <= value && value <= highest;
    }

    private static boolean isBookNumber(int what, int value) {
        return within(what, THICK, OUT) && within(value, BOOK_LOWEST[what], BOOK_HIGHEST[what]);
    }

    private static boolean isReaderNumber(int what, int value) {
        return within(what, STRIDE, WEIGHT) && within(value, 1, READER_HIGHEST[what]);
    }

    private static int exchange(int[] row, int at, int value) {
        int was = row[at];
        row[at] = value;
        return was;
    }

    private boolean takeTread(int at) {
        if (at + 2 >= tape.length) {
            return false;
        }
        int thick = tape.bytes[at];
        int bears = tape.bytes[at + 1];
        int dust = tape.bytes[at + 2];
        boolean canBe = isBookNumber(THICK, thick) && isBookNumber(BEARS, bears) && isBookNumber(DUST, dust);
        return canBe && told.addTread(thick, bears, dust) != NONE;
    }

    private void lookAtOne(int reader) {
        scene.lay(told, IN_PLACE);
        scene.look(told, judge, reader);
    }

    private void lookAtAll() {
        scene.lay(told, IN_PLACE);
        for (int reader = 0; reader < told.readerCount; reader++) {
            scene.look(told, judge, reader);
        }
    }

    private int playAsTold() {
        lookAtAll();
        return scene.play(told, IN_PLACE);
    }

    private int chosen(int kind, int reader, int what) {
        if (!told.hasReader(reader) || told.treads == 0) {
            return NONE;
        }
        lookAtOne(reader);
        choice.seek(scene, reader, kind);
        return choice.answer(what);
    }

    /** The TREADS on the WAYS of a set of READERS; NONE if one of them has no WAY to the TOP. */
    private int tracksOf(int set) {
        int treads = 0;
        for (int reader = 0; reader < told.readerCount; reader++) {
            if ((set >> reader & 1) != 0) {
                int own = scene.wayBits(reader);
                if (own == NONE) {
                    return NONE;
                }
                treads |= own;
            }
        }
        return treads;
    }

    /** Puts into spareRow how many can stay from each TREAD on, itself among them: the most of all. */
    private int measureRuns() {
        int most = 0;
        for (int tread = told.treads - 1; tread >= 0; tread--) {
            int behind = 0;
            for (int above = tread + 1; above < told.treads; above++) {
                if (told.canFollow(tread, above)) {
                    behind = Math.max(behind, spareRow[above]);
                }
            }
            spareRow[tread] = behind + 1;
            most = Math.max(most, behind + 1);
        }
        return most;
    }

    /** All that an IMAGE keeps. */
    private static final class Told {
        final int[][] books = new int[OUT + 1][MOST_TREADS];
        final int[][] readers = new int[WEIGHT + 1][MOST_READERS];
        final int[] terms = {9, 0};
        final Law[] laws = new Law[MOST_LAWS];
        final int[][] askings = new int[WANTED + 1][MOST_ASKINGS];
        final int[] toes = new int[MOST_TOES];
        private final int[] were = new int[MOST_TREADS];
        int treads;
        int readerCount;
        int lawCount;
        int inForce = NONE;
        int askingCount;
        int toeCount;

        void copyFrom(Told other) {
            copyRows(other.books, books);
            copyRows(other.readers, readers);
            copyRows(other.askings, askings);
            System.arraycopy(other.terms, 0, terms, 0, terms.length);
            System.arraycopy(other.toes, 0, toes, 0, toes.length);
            for (int law = 0; law < MOST_LAWS; law++) {
                laws[law] = other.laws[law];
            }
            treads = other.treads;
            readerCount = other.readerCount;
            lawCount = other.lawCount;
            inForce = other.inForce;
            askingCount = other.askingCount;
            toeCount = other.toeCount;
        }

        private static void copyRows(int[][] from, int[][] to) {
            for (int row = 0; row < from.length && row < to.length; row++) {
                System.arraycopy(from[row], 0, to[row], 0, Math.min(from[row].length, to[row].length));
            }
        }

        boolean hasTread(int tread) {
            return within(tread, 0, treads - 1);
        }

        boolean hasReader(int reader) {
            return within(reader, 0, readerCount - 1);
        }

        // Each of these that add tells NONE where there is no room.

        int addTread(int thick, int bears, int dust) {
            if (treads >= MOST_TREADS) {
                return NONE;
            }
            books[THICK][treads] = thick;
            books[BEARS][treads] = bears;
            books[DUST][treads] = dust;
            books[OUT][treads] = 0;
            treads++;
            return treads - 1;
        }

        int addReader(int stride, int weight) {
            if (readerCount >= MOST_READERS) {
                return NONE;
            }
            readers[STRIDE][readerCount] = stride;
            readers[WEIGHT][readerCount] = weight;
            readerCount++;
            return readerCount - 1;
        }

        int addLaw(Law law) {
            if (lawCount >= MOST_LAWS) {
                return NONE;
            }
            laws[lawCount] = law;
            lawCount++;
            return lawCount - 1;
        }

        int addAsking(int reader, int tread) {
            if (askingCount >= MOST_ASKINGS) {
                return NONE;
            }
            askings[WHO][askingCount] = reader;
            askings[WANTED][askingCount] = tread;
            askingCount++;
            return askingCount - 1;
        }

        int addToe(int thick) {
            if (toeCount >= MOST_TOES) {
                return NONE;
            }
            toes[toeCount] = thick;
            toeCount++;
            return toeCount;
        }

        void removeAsking(int asking) {
            for (int behind = Math.max(asking, 0) + 1; behind < askingCount; behind++) {
                askings[WHO][behind - 1] = askings[WHO][behind];
                askings[WANTED][behind - 1] = askings[WANTED][behind];
            }
            askingCount--;
        }

        int levelOf(int tread) {
            int level = 0;
            for (int below = 0; below <= tread && below < treads; below++) {
                level += books[THICK][below];
            }
            return level;
        }

        int countOut() {
            int outs = 0;
            for (int tread = 0; tread < treads; tread++) {
                outs += books[OUT][tread];
            }
            return outs;
        }

        /** The LAW in FORCE; null without. */
        Law ruling() {
            return within(inForce, 0, lawCount - 1) ? laws[inForce] : null;
        }

        /** READERS that have ASKINGS, as bits. */
        int askers() {
            int readerBits = 0;
            for (int asking = 0; asking < askingCount; asking++) {
                readerBits |= 1 << askings[WHO][asking];
            }
            return readerBits;
        }

        /** The BOOKS come to where a row of BOOKS by TREADS has them, and ASKINGS go with them. */
        void rearrange(int[] row) {
            if (row.length < treads) {
                return;
            }
            for (int what = THICK; what <= OUT; what++) {
                System.arraycopy(books[what], 0, were, 0, treads);
                for (int tread = 0; tread < treads; tread++) {
                    if (hasTread(row[tread])) {
                        books[what][tread] = were[row[tread]];
                    }
                }
            }
            for (int asking = 0; asking < askingCount; asking++) {
                askings[WANTED][asking] = treadOf(row, askings[WANTED][asking]);
            }
        }

        private int treadOf(int[] row, int book) {
            for (int tread = 0; tread < treads && tread < row.length; tread++) {
                if (row[tread] == book) {
                    return tread;
                }
            }
            return book;
        }

        boolean canFollow(int below, int above) {
            return hasTread(below) && hasTread(above) && books[THICK][above] <= books[THICK][below];
        }

        boolean isFeltFrom(int tread, int off) {
            if (tread < 0 || tread + toeCount > treads) {
                return false;
            }
            for (int toe = 0; toe < toeCount; toe++) {
                if (Math.abs(books[THICK][tread + toe] - toes[toe]) > off) {
                    return false;
                }
            }
            return true;
        }
    }

    private static final class Tape {
        final int[] bytes = new int[TAPE_ROOM];
        int length;

        void addFour(int number) {
            for (int shift = 24; shift >= 0 && length < TAPE_ROOM; shift -= 8) {
                bytes[length] = number >> shift & 255;
                length++;
            }
        }
    }

    /**
     * A LAW that was read, never changed afterwards, so that IMAGES can share it: for each CLAUSE
     * a stretch of steps over a stack, where the CLAUSE's deed (BEAR, BAR) is the last step.
     */
    private static final class Law {
        static final int NUMBER = 0;
        static final int FACT = 1;
        static final int PLUS = 2;
        static final int MINUS = 3;
        static final int TIMES = 4;
        static final int OVER = 5;
        static final int LESS = 6;
        static final int MORE = 7;
        static final int SAME = 8;
        static final int NOT = 9;
        static final int OR = 10;
        static final int AND = 11;
        static final int WHEN = 12;
        static final int BEAR = 13;
        static final int BAR = 14;

        static final int MOST_CLAUSES = 12;

        final int[] steps;
        final int[] numbers;
        /** Where each CLAUSE begins; the last one is the end of all. */
        final int[] starts;

        Law(int[] steps, int[] numbers, int[] starts) {
            this.steps = steps;
            this.numbers = numbers;
            this.starts = starts;
        }
    }

    /** Reads a TEXT from the TAPE, token by token; the token that can't go on is the FAULT. */
    private static final class LawReader {
        private static final int MOST_PARTS = 50;
        private static final int MOST_BRACKETS = 8;
        private static final int HIGHEST_NUMBER = 1000;

        private final int[] steps = new int[TAPE_ROOM];
        private final int[] numbers = new int[TAPE_ROOM];
        private final int[] starts = new int[Law.MOST_CLAUSES + 1];
        private int size;
        private int parts;
        private int[] bytes = new int[0];
        private int length;
        private int from;
        private int to;
        int fault = NONE;

        /** The LAW; null, and fault is its place, if the TEXT can't be. */
        Law read(Tape tape) {
            bytes = tape.bytes;
            length = Math.min(tape.length, tape.bytes.length);
            size = 0;
            parts = 0;
            to = 0;
            fault = NONE;
            next();
            for (int clause = 0; clause < Law.MOST_CLAUSES; clause++) {
                starts[clause] = size;
                if (!readClause()) {
                    return null;
                }
                starts[clause + 1] = size;
                if (from >= length) {
                    return new Law(Arrays.copyOf(steps, size), Arrays.copyOf(numbers, size),
                            Arrays.copyOf(starts, clause + 2));
                }
                if (!pass(';')) {
                    return null;
                }
            }
            fail();
            return null;
        }

        private boolean readClause() {
            int deed = isWord("bears") ? Law.BEAR : Law.BAR;
            if (deed == Law.BAR && !isWord("bars")) {
                return fail();
            }
            next();
            if (deed == Law.BEAR && !readSum(0)) {
                return false;
            }
            if (isWord("if")) {
                next();
                if (!readTest(0)) {
                    return false;
                }
                add(Law.WHEN, 0);
            }
            add(deed, 0);
            return true;
        }

        private boolean readTest(int depth) {
            if (!readBoth(depth)) {
                return false;
            }
            for (int round = 0; round < TAPE_ROOM && isWord("or"); round++) {
                int step = add(Law.OR, 0);
                next();
                if (!readBoth(depth)) {
                    return false;
                }
                numbers[step] = size;
            }
            return true;
        }

        private boolean readBoth(int depth) {
            if (!readPlain(depth)) {
                return false;
            }
            for (int round = 0; round < TAPE_ROOM && isWord("and"); round++) {
                int step = add(Law.AND, 0);
                next();
                if (!readPlain(depth)) {
                    return false;
                }
                numbers[step] = size;
            }
            return true;
        }

        private boolean readPlain(int depth) {
            boolean turned = false;
            for (int round = 0; round < TAPE_ROOM && isWord("not"); round++) {
                turned = !turned;
                next();
            }
            if (isSign('(')) {
                if (!readInBrackets(depth)) {
                    return false;
                }
            } else {
                if (!readSum(depth)) {
                    return false;
                }
                int step = comparisonThere();
                if (step == NONE) {
                    return fail();
                }
                next();
                if (!readSum(depth)) {
                    return false;
                }
                add(step, 0);
            }
            if (turned) {
                add(Law.NOT, 0);
            }
            return true;
        }

        private boolean readInBrackets(int depth) {
            if (depth >= MOST_BRACKETS) {
                return fail();
            }
            next();
            return readTest(depth + 1) && pass(')');
        }

        private int comparisonThere() {
            if (isSign('<')) {
                return Law.LESS;
            }
            if (isSign('>')) {
                return Law.MORE;
            }
            return isSign('=') ? Law.SAME : NONE;
        }

        private boolean readSum(int depth) {
            if (!readTerm(depth)) {
                return false;
            }
            for (int round = 0; round < TAPE_ROOM && (isSign('+') || isSign('-')); round++) {
                int step = isSign('+') ? Law.PLUS : Law.MINUS;
                next();
                if (!readTerm(depth)) {
                    return false;
                }
                add(step, 0);
            }
            return true;
        }

        private boolean readTerm(int depth) {
            if (!readPart(depth)) {
                return false;
            }
            for (int round = 0; round < TAPE_ROOM && (isSign('*') || isSign('/')); round++) {
                int step = isSign('*') ? Law.TIMES : Law.OVER;
                next();
                if (!readPart(depth)) {
                    return false;
                }
                add(step, 0);
            }
            return true;
        }

        private boolean readPart(int depth) {
            if (isSign('[')) {
                if (depth >= MOST_BRACKETS) {
                    return fail();
                }
                next();
                return readSum(depth + 1) && pass(']');
            }
            int number = numberThere();
            int fact = factThere();
            if (parts >= MOST_PARTS || number == NONE && fact == NONE) {
                return fail();
            }
            parts++;
            add(number == NONE ? Law.FACT : Law.NUMBER, number == NONE ? fact : number);
            next();
            return true;
        }

        private int numberThere() {
            int number = from < to ? 0 : NONE;
            for (int at = from; at < to && number != NONE; at++) {
                boolean digit = within(bytes[at], '0', '9');
                number = digit ? number * 10 + bytes[at] - '0' : NONE;
                if (number > HIGHEST_NUMBER) {
                    return NONE;
                }
            }
            return number;
        }

        private int factThere() {
            if (isWord("reader")) {
                return Judge.READER;
            }
            if (isWord("tread")) {
                return Judge.TREAD;
            }
            if (isWord("thick")) {
                return Judge.THICKNESS;
            }
            if (isWord("level")) {
                return Judge.HEIGHT;
            }
            if (isWord("weight")) {
                return Judge.LOAD;
            }
            if (isWord("stride")) {
                return Judge.REACH;
            }
            if (isWord("hour")) {
                return Judge.TIME;
            }
            if (isWord("dust")) {
                return Judge.DUSTINESS;
            }
            return isWord("bears") ? Judge.STRENGTH : NONE;
        }

        /** Adds a step: where it is, so that its number can be told later. */
        private int add(int step, int number) {
            if (size >= TAPE_ROOM) {
                // No token makes more than one step, so this can't be; the last place is kept.
                return TAPE_ROOM - 1;
            }
            steps[size] = step;
            numbers[size] = number;
            size++;
            return size - 1;
        }

        private boolean fail() {
            fault = from;
            return false;
        }

        private boolean pass(char sign) {
            if (!isSign(sign)) {
                return fail();
            }
            next();
            return true;
        }

        private void next() {
            from = rowEnd(to, ' ', ' ');
            to = Math.max(rowEnd(from, 'a', 'z'), rowEnd(from, '0', '9'));
            if (to == from && from < length) {
                to = from + 1;
            }
        }

        private int rowEnd(int start, int lowest, int highest) {
            int at = start;
            for (; at < length && bytes[at] >= lowest && bytes[at] <= highest; at++) {
                continue;
            }
            return at;
        }

        private boolean isSign(char sign) {
            return from < length && bytes[from] == sign;
        }

        private boolean isWord(String word) {
            if (to - from != word.length()) {
                return false;
            }
            for (int at = from; at < to; at++) {
                if (bytes[at] != word.charAt(at - from)) {
                    return false;
                }
            }
            return true;
        }
    }

    /** Asks a LAW of a READER and a TREAD. */
    private static final class Judge {
        static final int READER = 0;
        static final int TREAD = 1;
        static final int THICKNESS = 2;
        static final int HEIGHT = 3;
        static final int LOAD = 4;
        static final int REACH = 5;
        static final int TIME = 6;
        static final int DUSTINESS = 7;
        static final int STRENGTH = 8;

        private static final long FARTHEST = 1_000_000_000L;

        private final int[] facts = new int[STRENGTH + 1];
        /** Two wait at most in each of the nine depths of brackets, a CLAUSE's and a comparison's SUM besides. */
        private final long[] stack = new long[40];
        private int height;
        private int resume;
        private boolean broken;
        private boolean barred;
        private long borne;

        /** Whether a TREAD at a LEVEL would carry a READER, if a BOOK were there. */
        boolean holdsUp(Told told, int reader, int book, int tread, int level) {
            if (!told.hasReader(reader) || !told.hasTread(book)) {
                return false;
            }
            facts[READER] = reader;
            facts[TREAD] = tread;
            facts[THICKNESS] = told.books[THICK][book];
            facts[HEIGHT] = level;
            facts[LOAD] = told.readers[WEIGHT][reader];
            facts[REACH] = told.readers[STRIDE][reader];
            facts[TIME] = told.terms[HOUR];
            facts[DUSTINESS] = told.books[DUST][book];
            facts[STRENGTH] = told.books[BEARS][book];
            Law law = told.ruling();
            borne = facts[STRENGTH];
            barred = false;
            int clauses = law == null ? 0 : law.starts.length - 1;
            for (int clause = 0; clause < clauses; clause++) {
                apply(law, law.starts[clause], law.starts[clause + 1]);
            }
            return !barred && borne >= facts[LOAD];
        }

        /** A BROKEN CLAUSE ends before its last step, the deed. */
        private void apply(Law law, int start, int end) {
            height = 0;
            broken = false;
            resume = start;
            for (int at = start; at < end && at < law.steps.length && !broken; at++) {
                if (at >= resume) {
                    take(law.steps[at], law.numbers[at], end);
                }
            }
        }

        private void take(int step, int number, int end) {
            switch (step) {
                case Law.NUMBER:
                    push(number);
                    break;
                case Law.FACT:
                    push(within(number, 0, facts.length - 1) ? facts[number] : 0);
                    break;
                case Law.NOT:
                    push(1 - pop());
                    break;
                case Law.OR:
                    settle(1, number);
                    break;
                case Law.AND:
                    settle(0, number);
                    break;
                case Law.WHEN:
                    resume = pop() == 0 ? end : resume;
                    break;
                case Law.BEAR:
                    borne = pop();
                    break;
                case Law.BAR:
                    barred = true;
                    break;
                default:
                    long right = pop();
                    long left = pop();
                    push(combine(step, left, right));
                    break;
            }
        }

        /** What stands behind is asked only if the one ahead does not settle it. */
        private void settle(int truth, int onward) {
            if (height > 0 && stack[height - 1] == truth) {
                resume = onward;
            } else if (height > 0) {
                height--;
            }
        }

        private long combine(int step, long left, long right) {
            switch (step) {
                case Law.PLUS:
                    return left + right;
                case Law.MINUS:
                    return left - right;
                case Law.TIMES:
                    return left * right;
                case Law.OVER:
                    broken = broken || right == 0;
                    return right == 0 ? 0 : left / right;
                case Law.LESS:
                    return left < right ? 1 : 0;
                case Law.MORE:
                    return left > right ? 1 : 0;
                default:
                    return left == right ? 1 : 0;
            }
        }

        private void push(long value) {
            if (value > FARTHEST || value < -FARTHEST || height >= stack.length) {
                broken = true;
                return;
            }
            stack[height] = value;
            height++;
        }

        private long pop() {
            if (height <= 0) {
                return 0;
            }
            height--;
            return stack[height];
        }
    }

    /** The stair as it is walked: where each place leads for each READER, what is in, who stands where. */
    private static final class Scene {
        private final int[] levels = new int[PLACES];
        /** By READER: the GROUND and the TREADS that carry him, in or OUT, as places. */
        private final int[] carriers = new int[MOST_READERS];
        /** By READER and place: the places that are a STEP away if one can STAND there. */
        private final int[][] near = new int[MOST_READERS][PLACES];
        /** By READER and place: the other places from which he gets at the BOOK there. */
        private final int[][] grasp = new int[MOST_READERS][PLACES];
        private final int[] layers = new int[PLACES];
        final int[] where = new int[MOST_READERS];
        final int[] wayTreads = new int[MOST_TREADS];
        int in;
        int treads;
        private int readers;

        /** Lays BOOKS by a row of BOOKS by TREADS; all READERS are on the GROUND then. */
        void lay(Told told, int[] row) {
            treads = Math.min(told.treads, row.length);
            readers = told.readerCount;
            in = 1;
            levels[GROUND] = 0;
            for (int tread = 0; tread < treads; tread++) {
                int book = row[tread];
                if (told.hasTread(book)) {
                    levels[tread + 1] = levels[tread] + told.books[THICK][book];
                    in |= told.books[OUT][book] == 0 ? 2 << tread : 0;
                }
            }
            Arrays.fill(where, GROUND);
        }

        /** Finds what carries a READER, where the BOOKS are laid in place. */
        void look(Told told, Judge judge, int reader) {
            int treadBits = 0;
            for (int tread = 0; tread < treads; tread++) {
                if (judge.holdsUp(told, reader, tread, tread, levels[tread + 1])) {
                    treadBits |= 1 << tread;
                }
            }
            measure(told, reader, treadBits);
        }

        /** Sets what carries a READER, and measures his STEPS. */
        void measure(Told told, int reader, int treadBits) {
            if (!told.hasReader(reader)) {
                return;
            }
            carriers[reader] = treadBits << 1 | 1;
            int up = told.readers[STRIDE][reader];
            int down = up + told.terms[DROP];
            for (int place = 0; place <= treads; place++) {
                int steps = 0;
                int grasped = 0;
                for (int other = 0; other <= treads; other++) {
                    int rise = levels[other] - levels[place];
                    if (other != place && rise <= up && -rise <= down) {
                        steps |= 1 << other;
                    }
                    if (other != place && Math.abs(rise) <= up) {
                        grasped |= 1 << other;
                    }
                }
                near[reader][place] = steps;
                grasp[reader][place] = grasped;
            }
        }

        private int stepsFrom(int reader, int edge) {
            int steps = 0;
            for (int place = 0; place <= treads; place++) {
                if ((edge >> place & 1) != 0) {
                    steps |= near[reader][place];
                }
            }
            return steps;
        }

        private static int lowest(int places) {
            for (int place = 0; place < PLACES; place++) {
                if ((places >> place & 1) != 0) {
                    return place;
                }
            }
            return NONE;
        }

        /** All places to which a READER comes from the GROUND. */
        int reached(int reader) {
            int standing = carriers[reader] & in;
            int seen = 1;
            int edge = 1;
            for (int step = 0; step < PLACES && edge != 0; step++) {
                edge = stepsFrom(reader, edge) & standing & ~seen;
                seen |= edge;
            }
            return seen;
        }

        /** Of some places the one that is nearest to where a READER is, and the lowest of those; or NONE. */
        int nearest(int reader, int start, int goals) {
            int standing = carriers[reader] & in;
            int seen = 1 << start;
            int edge = seen;
            for (int step = 0; step < PLACES && edge != 0; step++) {
                if ((edge & goals) != 0) {
                    return lowest(edge & goals);
                }
                edge = stepsFrom(reader, edge) & standing & ~seen;
                seen |= edge;
            }
            return NONE;
        }

        boolean comesToTop(int reader) {
            return nearest(reader, GROUND, 1 << treads) == treads;
        }

        /** Puts the WAY from the GROUND to a place into wayTreads: how many STEPS it has; or NONE. */
        int findWay(int reader, int goal) {
            int standing = carriers[reader] & in;
            int seen = 1;
            int last = 0;
            layers[0] = 1;
            for (int step = 1; step < PLACES && (seen >> goal & 1) == 0; step++) {
                layers[step] = stepsFrom(reader, layers[step - 1]) & standing & ~seen;
                seen |= layers[step];
                last = step;
            }
            if ((seen >> goal & 1) == 0) {
                return NONE;
            }
            layers[last] = 1 << goal;
            keepOnward(reader, last);
            int at = GROUND;
            for (int step = 1; step <= last; step++) {
                at = Math.max(GROUND, lowest(layers[step] & near[reader][at]));
                wayTreads[step - 1] = at - 1;
            }
            return last;
        }

        /** Keeps in each layer only what has a STEP into the next one. */
        private void keepOnward(int reader, int last) {
            for (int step = last - 1; step > 0; step--) {
                int onward = 0;
                for (int place = 0; place <= treads; place++) {
                    if ((layers[step] >> place & 1) != 0 && (near[reader][place] & layers[step + 1]) != 0) {
                        onward |= 1 << place;
                    }
                }
                layers[step] = onward;
            }
        }

        /** The TREADS of a READER's WAY to the TOP, as bits; NONE without one. */
        int wayBits(int reader) {
            int steps = treads == 0 ? NONE : findWay(reader, treads);
            if (steps == NONE) {
                return NONE;
            }
            int bits = 0;
            for (int step = 0; step < steps && step < MOST_TREADS; step++) {
                bits |= 1 << wayTreads[step];
            }
            return bits;
        }

        /** A READER gets a TREAD's BOOK and stays where he took it, if it can be SERVED. */
        boolean serve(int reader, int tread) {
            if (!within(reader, 0, readers - 1) || !within(tread, 0, treads - 1)) {
                return false;
            }
            int book = tread + 1;
            if ((in >> book & 1) == 0 || isStoodOn(book)) {
                return false;
            }
            int place = nearest(reader, where[reader], grasp[reader][book]);
            if (place == NONE) {
                return false;
            }
            where[reader] = place;
            in &= ~(1 << book);
            return true;
        }

        private boolean isStoodOn(int place) {
            for (int reader = 0; reader < readers; reader++) {
                if (where[reader] == place) {
                    return true;
                }
            }
            return false;
        }

        /** ASKINGS in the order of their numbers, their BOOKS on the TREADS that seats tells: SERVED ones as bits. */
        int play(Told told, int[] seats) {
            int served = 0;
            for (int asking = 0; asking < told.askingCount; asking++) {
                int book = told.askings[WANTED][asking];
                if (within(book, 0, seats.length - 1) && serve(told.askings[WHO][asking], seats[book])) {
                    served |= 1 << asking;
                }
            }
            return served;
        }

        int strandedReaders() {
            int stranded = 0;
            for (int reader = 0; reader < readers; reader++) {
                if (where[reader] != GROUND && nearest(reader, where[reader], 1) == NONE) {
                    stranded |= 1 << reader;
                }
            }
            return stranded;
        }

        int inTreads() {
            return in >> 1;
        }

        int outTreads() {
            return ~(in >> 1) & (1 << treads) - 1;
        }
    }

    /** Sets of TREADS that let a READER come to the TOP, or cut him off from it. */
    private static final class Choice {
        static final int FREE = 0;
        static final int CUT = 1;
        static final int BOARDS = 2;

        private int size;
        private int lowest;
        private int ways;
        private int sets;

        /** Sets are gone through as rising bits, so the first of a size is the lowest. */
        void seek(Scene scene, int reader, int kind) {
            sets = 0;
            ways = 0;
            int was = scene.in;
            int below = (1 << scene.treads) - 1 >> 1;
            int choices = kind == BOARDS ? scene.outTreads() : scene.inTreads() & below;
            for (int set = 0; set <= choices; set++) {
                if ((set & ~choices) == 0) {
                    scene.in = kind == BOARDS ? was | set << 1 : was & ~(set << 1);
                    if (scene.comesToTop(reader) == (kind != CUT)) {
                        note(set, kind == FREE);
                    }
                }
            }
            scene.in = was;
        }

        private void note(int set, boolean most) {
            int treads = Integer.bitCount(set);
            if (sets == 0 || (most ? treads > size : treads < size)) {
                size = treads;
                lowest = set;
                ways = 0;
            }
            if (treads == size) {
                ways++;
            }
            sets++;
        }

        int answer(int what) {
            if (what == 2) {
                return ways;
            }
            if (what == 3) {
                return sets;
            }
            if (sets == 0) {
                return NONE;
            }
            return what == 0 ? size : lowest;
        }
    }

    /** The most that are SERVED, then the fewest STRANDED, over rows that come in rising order. */
    private static final class Score {
        final int[] first = new int[MOST_ASKINGS];
        boolean fresh;
        private int served;
        private int stranded;
        private int ways;

        void clear() {
            served = NONE;
            stranded = 0;
            ways = 0;
            fresh = true;
        }

        boolean canReach(int most) {
            return most >= served;
        }

        void weigh(int servedNow, int strandedNow, int[] row) {
            if (servedNow > served || servedNow == served && strandedNow < stranded) {
                served = servedNow;
                stranded = strandedNow;
                ways = 0;
                System.arraycopy(row, 0, first, 0, Math.min(row.length, first.length));
            }
            if (servedNow == served && strandedNow == stranded) {
                ways++;
            }
        }

        int answer(int what, int length) {
            switch (what) {
                case 0: return served;
                case 1: return stranded;
                case 2: return ways;
                default: break;
            }
            boolean inRow = what > 2 && what - 3 < length && what - 3 < first.length;
            return inRow ? first[what - 3] : NONE;
        }
    }

    /** Tries all ORDERS of the ASKINGS. */
    private static final class Orders {
        final Score score = new Score();
        private final int[] order = new int[MOST_ASKINGS];

        void search(Told told, Scene scene) {
            score.clear();
            extend(told, scene, 0, 0, 0);
        }

        private void extend(Told told, Scene scene, int depth, int used, int served) {
            int left = told.askingCount - depth;
            if (!score.canReach(served + left)) {
                return;
            }
            if (left <= 0 || depth >= MOST_ASKINGS) {
                score.weigh(served, Integer.bitCount(scene.strandedReaders()), order);
                return;
            }
            for (int asking = 0; asking < told.askingCount; asking++) {
                if ((used >> asking & 1) == 0) {
                    int reader = told.askings[WHO][asking];
                    int where = scene.where[reader];
                    int in = scene.in;
                    order[depth] = asking;
                    int more = scene.serve(reader, told.askings[WANTED][asking]) ? 1 : 0;
                    extend(told, scene, depth + 1, used | 1 << asking, served + more);
                    scene.where[reader] = where;
                    scene.in = in;
                }
            }
        }
    }

    /** Tries all rows of the BOOKS. */
    private static final class Builds {
        final Score score = new Score();
        /** By the BOOK and the BOOKS below it, as bits: the READERS whom it would carry there, as bits. */
        private final int[][] carried = new int[MOST_BUILT][1 << MOST_BUILT];
        private final int[] row = new int[MOST_BUILT];
        private final int[] seats = new int[MOST_BUILT];

        void search(Told told, Scene scene, Judge judge) {
            if (score.fresh || told.treads > MOST_BUILT) {
                return;
            }
            score.clear();
            for (int below = 0; below < 1 << told.treads; below++) {
                judgeAbove(told, judge, below);
            }
            place(told, scene, 0, 0);
        }

        /** A LAW is asked once for each BOOK above each set of BOOKS: rows share the most of these. */
        private void judgeAbove(Told told, Judge judge, int below) {
            int level = 0;
            for (int book = 0; book < told.treads; book++) {
                level += (below >> book & 1) * told.books[THICK][book];
            }
            for (int book = 0; book < told.treads; book++) {
                int readers = 0;
                int own = level + told.books[THICK][book];
                for (int reader = 0; reader < told.readerCount && (below >> book & 1) == 0; reader++) {
                    if (judge.holdsUp(told, reader, book, Integer.bitCount(below), own)) {
                        readers |= 1 << reader;
                    }
                }
                carried[book][below] = readers;
            }
        }

        private void place(Told told, Scene scene, int depth, int used) {
            if (depth >= told.treads || depth >= MOST_BUILT) {
                weighRow(told, scene);
                return;
            }
            for (int book = 0; book < told.treads; book++) {
                if ((used >> book & 1) == 0) {
                    row[depth] = book;
                    seats[book] = depth;
                    place(told, scene, depth + 1, used | 1 << book);
                }
            }
        }

        private void weighRow(Told told, Scene scene) {
            scene.lay(told, row);
            int askers = told.askers();
            for (int reader = 0; reader < told.readerCount; reader++) {
                // Who asks nothing stays on the GROUND, whatever carries him.
                if ((askers >> reader & 1) != 0) {
                    scene.measure(told, reader, treadsFor(reader, told.treads));
                }
            }
            int served = Integer.bitCount(scene.play(told, seats));
            score.weigh(served, Integer.bitCount(scene.strandedReaders()), row);
        }

        private int treadsFor(int reader, int treads) {
            int bits = 0;
            int below = 0;
            for (int tread = 0; tread < treads && tread < MOST_BUILT; tread++) {
                bits |= (carried[row[tread]][below] >> reader & 1) << tread;
                below |= 1 << row[tread];
            }
            return bits;
        }
    }

    /** The latest DAYS. */
    private static final class DayBook {
        private static final int ASKINGS_A_DAY = 6;

        /** By what drawn() is asked and the DAY. */
        final int[][] pages = new int[3][MOST_DAYS];
        int length;
        private int seed;

        int spend(Told told, Scene scene, int firstSeed, int n) {
            seed = firstSeed;
            length = Math.min(n, MOST_DAYS);
            int served = 0;
            for (int day = 0; day < length; day++) {
                scene.lay(told, IN_PLACE);
                pages[0][day] = serveDrawn(told, scene);
                pages[1][day] = scene.strandedReaders();
                pages[2][day] = scene.outTreads();
                served += pages[0][day];
            }
            return served;
        }

        private int serveDrawn(Told told, Scene scene) {
            if (told.readerCount == 0 || told.treads == 0) {
                return 0;
            }
            int served = 0;
            for (int asking = 0; asking < ASKINGS_A_DAY; asking++) {
                int reader = draw(told.readerCount);
                int tread = draw(told.treads);
                if (scene.serve(reader, tread)) {
                    served++;
                }
            }
            return served;
        }

        private int draw(int m) {
            seed = (seed * 1103 + 12345) % 1_000_003;
            return m > 0 ? seed % m : 0;
        }
    }
}
