import java.util.ArrayList;
import java.util.Arrays;
import java.util.Collections;
import java.util.HashMap;
import java.util.List;
import java.util.Map;
import java.util.TreeSet;

/**
 * A second telling of the document, as slow and plain as can be, written apart from FolioStair:
 * lists, sets of places and trees of LAWS in place of bits and steps over a stack.
 */
final class Oracle {
    static final class Fault extends RuntimeException {
        final int place;
        Fault(int place) { super(null, null, false, false); this.place = place; }
    }

    static final class Broken extends RuntimeException {
        Broken() { super(null, null, false, false); }
    }

    interface Value { long of(Map<String, Integer> facts); }

    interface Truth { boolean of(Map<String, Integer> facts); }

    record Clause(Value sum, Truth test) { }

    record Token(String text, int place) { }

    record Book(int thick, int bears, int dust, int out) { }

    static final class State {
        List<Book> books = new ArrayList<>();
        List<int[]> readers = new ArrayList<>();
        List<List<Clause>> laws = new ArrayList<>();
        List<int[]> askings = new ArrayList<>();
        List<Integer> toes = new ArrayList<>();
        int hour = 9;
        int drop = 0;
        int inForce = -1;

        State copy() {
            State s = new State();
            s.books.addAll(books);
            for (int[] r : readers) s.readers.add(r.clone());
            s.laws.addAll(laws);
            for (int[] a : askings) s.askings.add(a.clone());
            s.toes.addAll(toes);
            s.hour = hour;
            s.drop = drop;
            s.inForce = inForce;
            return s;
        }
    }

    State state = new State();
    State[] images = new State[2];
    List<Integer> tape = new ArrayList<>();
    List<int[]> latest = new ArrayList<>();
    int torn = 0;
    int fault = -1;
    int status = 0;
    Map<Integer, Integer> refused = new HashMap<>();

    int refuse(int why) {
        refused.merge(why, 1, Integer::sum);
        status = why;
        return why;
    }

    int done(int answer) {
        status = 0;
        return answer;
    }

    boolean isTread(int t) { return t >= 0 && t < state.books.size(); }
    boolean isReader(int r) { return r >= 0 && r < state.readers.size(); }
    static boolean bookFits(int what, int v) {
        return what == 0 && v >= 1 && v <= 9 || what == 1 && v >= 1 && v <= 99
            || what == 2 && v >= 0 && v <= 9 || what == 3 && (v == 0 || v == 1);
    }

    int tread(int thick, int bears) {
        if (!bookFits(0, thick) || !bookFits(1, bears)) return refuse(-1);
        if (state.books.size() == 12) return refuse(-5);
        state.books.add(new Book(thick, bears, 0, 0));
        return done(state.books.size() - 1);
    }

    int put(int t, int what, int value) {
        if (!bookFits(what, value)) return refuse(-1);
        if (!isTread(t)) return refuse(-2);
        int was = of(t, what);
        Book b = state.books.get(t);
        state.books.set(t, new Book(what == 0 ? value : b.thick, what == 1 ? value : b.bears,
                what == 2 ? value : b.dust, what == 3 ? value : b.out));
        return done(was);
    }

    int of(int t, int what) {
        if (!isTread(t)) return -1;
        Book b = state.books.get(t);
        return switch (what) {
            case 0 -> b.thick;
            case 1 -> b.bears;
            case 2 -> b.dust;
            case 3 -> b.out;
            case 4 -> level(state.books, t);
            default -> -1;
        };
    }

    static int level(List<Book> books, int t) {
        return t < 0 ? 0 : books.get(t).thick + level(books, t - 1);
    }

    int reader(int stride, int weight) {
        if (stride < 1 || stride > 40 || weight < 1 || weight > 99) return refuse(-1);
        if (state.readers.size() == 6) return refuse(-5);
        state.readers.add(new int[] {stride, weight});
        return done(state.readers.size() - 1);
    }

    int turn(int r, int what, int value) {
        if (what != 0 && what != 1) return refuse(-1);
        if (value < 1 || value > (what == 0 ? 40 : 99)) return refuse(-1);
        if (!isReader(r)) return refuse(-2);
        int was = state.readers.get(r)[what];
        state.readers.get(r)[what] = value;
        return done(was);
    }

    int terms(int what, int value) {
        int was;
        if (what == 0 && value >= 0 && value <= 23) {
            was = state.hour;
            state.hour = value;
        } else if (what == 1 && value >= 0 && value <= 9) {
            was = state.drop;
            state.drop = value;
        } else {
            return refuse(-1);
        }
        return done(was);
    }

    int feed(int... five) {
        if (tape.size() > 380) return -1;
        for (int n : five) {
            tape.add((n >> 24) & 0xff);
            tape.add((n >> 16) & 0xff);
            tape.add((n >> 8) & 0xff);
            tape.add(n & 0xff);
        }
        return tape.size();
    }

    int end(int n) {
        if (n < 0 || n > tape.size()) return -1;
        tape = new ArrayList<>(tape.subList(0, n));
        return n;
    }

    int row() {
        if (tape.isEmpty()) return refuse(-6);
        torn = 0;
        int came = 0;
        while (!tape.isEmpty()) {
            List<Integer> three = new ArrayList<>(tape.subList(0, Math.min(3, tape.size())));
            tape.subList(0, three.size()).clear();
            boolean good = three.size() == 3 && state.books.size() < 12 && bookFits(0, three.get(0))
                    && bookFits(1, three.get(1)) && bookFits(2, three.get(2));
            if (good) {
                state.books.add(new Book(three.get(0), three.get(1), three.get(2), 0));
                came++;
            } else {
                torn++;
            }
        }
        return done(came);
    }

    int torn() { return torn; }

    int law() {
        StringBuilder text = new StringBuilder();
        for (int b : tape) text.append((char) b);
        tape.clear();
        if (state.laws.size() == 6) return refuse(-5);
        try {
            List<Clause> clauses = new Reading(text.toString()).law();
            fault = -1;
            state.laws.add(clauses);
            return done(state.laws.size() - 1);
        } catch (Fault f) {
            fault = f.place;
            return refuse(-6);
        }
    }

    int fault() { return fault; }

    int force(int law) {
        if (law < -1 || law >= state.laws.size()) return refuse(-2);
        int was = state.inForce;
        state.inForce = law;
        return done(was);
    }

    static final class Reading {
        final List<Token> tokens = new ArrayList<>();
        int at = 0;
        int parts = 0;
        int open = 0;

        Reading(String text) {
            java.util.regex.Matcher m = java.util.regex.Pattern.compile("[a-z]+|[0-9]+|[^ ]", java.util.regex.Pattern.DOTALL)
                    .matcher(text);
            while (m.find()) tokens.add(new Token(m.group(), m.start()));
            tokens.add(new Token("", text.length()));
        }

        String now() { return tokens.get(at).text; }
        Fault wrong() { return new Fault(tokens.get(at).place); }
        boolean took(String t) {
            if (!now().equals(t)) return false;
            at++;
            return true;
        }
        void must(String t) { if (!took(t)) throw wrong(); }

        List<Clause> law() {
            List<Clause> all = new ArrayList<>();
            do {
                if (all.size() == 12) throw wrong();
                all.add(clause());
            } while (took(";"));
            if (!now().isEmpty()) throw wrong();
            return all;
        }

        Clause clause() {
            Value sum = null;
            if (took("bears")) sum = sum();
            else must("bars");
            return new Clause(sum, took("if") ? test() : null);
        }

        Truth test() {
            List<Truth> all = new ArrayList<>();
            do all.add(both()); while (took("or"));
            return f -> {
                for (Truth t : all) if (t.of(f)) return true;
                return false;
            };
        }

        Truth both() {
            List<Truth> all = new ArrayList<>();
            do all.add(plain()); while (took("and"));
            return f -> {
                for (Truth t : all) if (!t.of(f)) return false;
                return true;
            };
        }

        Truth plain() {
            if (took("not")) {
                Truth t = plain();
                return f -> !t.of(f);
            }
            if (now().equals("(")) {
                opened();
                Truth t = test();
                must(")");
                open--;
                return t;
            }
            Value left = sum();
            String sign = now();
            if (!List.of("<", ">", "=").contains(sign)) throw wrong();
            at++;
            Value right = sum();
            return f -> {
                long l = left.of(f);
                long r = right.of(f);
                return sign.equals("<") ? l < r : sign.equals(">") ? l > r : l == r;
            };
        }

        void opened() {
            if (open == 8) throw wrong();
            open++;
            at++;
        }

        Value sum() { return row(List.of("+", "-")); }

        Value row(List<String> signs) {
            Value all = signs.contains("+") ? row(List.of("*", "/")) : part();
            while (signs.contains(now())) {
                String sign = now();
                at++;
                Value left = all;
                Value right = signs.contains("+") ? row(List.of("*", "/")) : part();
                all = f -> reckon(sign, left.of(f), right.of(f));
            }
            return all;
        }

        static long reckon(String sign, long l, long r) {
            if (sign.equals("/") && r == 0) throw new Broken();
            long v = switch (sign) {
                case "+" -> l + r;
                case "-" -> l - r;
                case "*" -> l * r;
                default -> (Math.abs(l) / Math.abs(r)) * Long.signum(l) * Long.signum(r);
            };
            if (Math.abs(v) > 1_000_000_000L) throw new Broken();
            return v;
        }

        Value part() {
            if (now().equals("[")) {
                opened();
                Value v = sum();
                must("]");
                open--;
                return v;
            }
            String t = now();
            boolean word = List.of("reader", "tread", "thick", "level", "weight", "stride", "hour", "dust", "bears").contains(t);
            boolean number = t.matches("[0-9]+") && new java.math.BigInteger(t).compareTo(java.math.BigInteger.valueOf(1000)) <= 0;
            if (!word && !number || parts == 50) throw wrong();
            parts++;
            at++;
            if (number) {
                long n = Long.parseLong(t.replaceFirst("^0+(?=.)", ""));
                return f -> n;
            }
            return f -> f.get(t);
        }
    }

    boolean carriesAt(List<Book> books, int t, int r) {
        Book b = books.get(t);
        int[] who = state.readers.get(r);
        Map<String, Integer> f = new HashMap<>();
        f.put("reader", r);
        f.put("tread", t);
        f.put("thick", b.thick);
        f.put("level", level(books, t));
        f.put("weight", who[1]);
        f.put("stride", who[0]);
        f.put("hour", state.hour);
        f.put("dust", b.dust);
        f.put("bears", b.bears);
        long told = b.bears;
        boolean bars = false;
        if (state.inForce >= 0) {
            for (Clause c : state.laws.get(state.inForce)) {
                try {
                    if (c.test != null && !c.test.of(f)) continue;
                    if (c.sum == null) bars = true;
                    else told = c.sum.of(f);
                } catch (Broken broken) {
                    continue;
                }
            }
        }
        return told >= who[1] && !bars;
    }

    int carries(int t, int r) {
        return isTread(t) && isReader(r) ? carriesAt(state.books, t, r) ? 1 : 0 : -1;
    }

    /** A stair to walk on: places are TREADS, -1 is the GROUND. */
    final class Walk {
        final List<Book> books;
        final TreeSet<Integer> out = new TreeSet<>();
        final int[] where = new int[6];
        final Map<Integer, Boolean> carry = new HashMap<>();

        Walk(List<Book> books) {
            this.books = books;
            for (int t = 0; t < books.size(); t++) if (books.get(t).out == 1) out.add(t);
            Arrays.fill(where, -1);
        }

        boolean carries(int t, int r) {
            return carry.computeIfAbsent(t * 10 + r, k -> carriesAt(books, t, r));
        }

        boolean stand(int r, int place) {
            return place == -1 || !out.contains(place) && carries(place, r);
        }

        boolean step(int r, int a, int b) {
            int rise = level(books, b) - level(books, a);
            int stride = state.readers.get(r)[0];
            return a != b && stand(r, b) && (rise > 0 ? rise <= stride : -rise <= stride + state.drop);
        }

        /** Places by how many STEPS they are off. */
        Map<Integer, Integer> steps(int r, int from) {
            Map<Integer, Integer> off = new HashMap<>();
            List<Integer> queue = new ArrayList<>(List.of(from));
            off.put(from, 0);
            for (int i = 0; i < queue.size(); i++) {
                for (int p = -1; p < books.size(); p++) {
                    if (!off.containsKey(p) && step(r, queue.get(i), p)) {
                        off.put(p, off.get(queue.get(i)) + 1);
                        queue.add(p);
                    }
                }
            }
            return off;
        }

        /** The WAY's TREADS, found from all rows that are as short as can be. */
        List<Integer> way(int r, int goal) {
            Integer long_ = steps(r, -1).get(goal);
            if (long_ == null) return null;
            return first(r, -1, goal, long_);
        }

        List<Integer> first(int r, int from, int goal, int left) {
            if (left == 0) return from == goal ? new ArrayList<>() : null;
            for (int p = -1; p < books.size(); p++) {
                if (step(r, from, p)) {
                    List<Integer> rest = first(r, p, goal, left - 1);
                    if (rest != null) {
                        rest.add(0, p);
                        return rest;
                    }
                }
            }
            return null;
        }

        boolean serve(int r, int t) {
            if (out.contains(t)) return false;
            for (int q = 0; q < state.readers.size(); q++) if (where[q] == t) return false;
            Map<Integer, Integer> off = steps(r, where[r]);
            int to = -2;
            for (int p = -1; p < books.size(); p++) {
                if (p != t && off.containsKey(p)
                        && Math.abs(level(books, p) - level(books, t)) <= state.readers.get(r)[0]
                        && (to == -2 || off.get(p) < off.get(to))) {
                    to = p;
                }
            }
            if (to == -2) return false;
            where[r] = to;
            out.add(t);
            return true;
        }

        int stranded() {
            int bits = 0;
            for (int r = 0; r < state.readers.size(); r++) {
                if (where[r] != -1 && !steps(r, where[r]).containsKey(-1)) bits |= 1 << r;
            }
            return bits;
        }

        int outBits() {
            int bits = 0;
            for (int t : out) bits |= 1 << t;
            return bits;
        }

        boolean top(int r) { return steps(r, -1).containsKey(books.size() - 1); }
    }

    int comes(int r) {
        if (!isReader(r)) return -1;
        int bits = 0;
        for (int p : new Walk(state.books).steps(r, -1).keySet()) if (p >= 0) bits += 1 << p;
        return bits;
    }

    int way(int r, int t, int i) {
        if (!isReader(r) || !isTread(t) || i < -1) return -1;
        List<Integer> way = new Walk(state.books).way(r, t);
        if (way == null) return -1;
        return i == -1 ? way.size() : i < way.size() ? way.get(i) : -1;
    }

    /** Sets by their bits that pass, of those that a mask allows. */
    List<Integer> sets(int r, int allowed, boolean fill, boolean comes) {
        List<Integer> good = new ArrayList<>();
        Map<Integer, Boolean> carry = new HashMap<>();
        for (int set = 0; set < 1 << state.books.size(); set++) {
            if ((set | allowed) != allowed) continue;
            Walk w = new Walk(state.books);
            w.carry.putAll(carry);
            for (int t = 0; t < state.books.size(); t++) {
                if ((set >> t & 1) == 1) {
                    if (fill) w.out.remove(t);
                    else w.out.add(t);
                }
            }
            if (w.top(r) == comes) good.add(set);
            carry.putAll(w.carry);
        }
        return good;
    }

    int pick(List<Integer> good, int what, boolean most) {
        if (what == 3) return good.size();
        if (good.isEmpty()) return what == 2 ? 0 : -1;
        int size = Integer.bitCount(good.get(0));
        for (int s : good) size = most ? Math.max(size, Integer.bitCount(s)) : Math.min(size, Integer.bitCount(s));
        List<Integer> finest = new ArrayList<>();
        for (int s : good) if (Integer.bitCount(s) == size) finest.add(s);
        return what == 0 ? size : what == 1 ? Collections.min(finest) : finest.size();
    }

    int inBelowTop() {
        int bits = 0;
        for (int t = 0; t < state.books.size() - 1; t++) if (state.books.get(t).out == 0) bits |= 1 << t;
        return bits;
    }

    int free(int r, int what) {
        if (!isReader(r) || what < 0 || what > 3 || state.books.isEmpty()) return -1;
        return pick(sets(r, inBelowTop(), false, true), what, true);
    }

    int cut(int r, int what) {
        if (!isReader(r) || what < 0 || what > 2 || state.books.isEmpty()) return -1;
        return pick(sets(r, inBelowTop(), false, false), what, false);
    }

    int boards(int r, int what) {
        if (!isReader(r) || what < 0 || what > 2 || state.books.isEmpty()) return -1;
        return pick(sets(r, new Walk(state.books).outBits(), true, true), what, false);
    }

    int ask(int r, int t) {
        if (!isReader(r) || !isTread(t)) return refuse(-2);
        if (state.askings.size() == 7) return refuse(-5);
        state.askings.add(new int[] {r, t});
        return done(state.askings.size() - 1);
    }

    int drop(int a) {
        if (a < 0 || a >= state.askings.size()) return refuse(-2);
        state.askings.remove(a);
        return done(state.askings.size());
    }

    int servedBits(Walk w, List<int[]> askings) {
        int bits = 0;
        for (int i = 0; i < askings.size(); i++) {
            if (w.serve(askings.get(i)[0], askings.get(i)[1])) bits |= 1 << i;
        }
        return bits;
    }

    int day(int what) {
        Walk w = new Walk(state.books);
        int served = servedBits(w, state.askings);
        return what == 0 ? served : what == 1 ? w.stranded() : what == 2 ? w.outBits() : -1;
    }

    int stands(int r) {
        if (!isReader(r)) return -1;
        Walk w = new Walk(state.books);
        servedBits(w, state.askings);
        return w.where[r] == -1 ? 100 : w.where[r];
    }

    static void rows(int n, List<Integer> so, List<List<Integer>> all) {
        if (so.size() == n) all.add(new ArrayList<>(so));
        for (int i = 0; i < n; i++) {
            if (!so.contains(i)) {
                so.add(i);
                rows(n, so, all);
                so.remove(so.size() - 1);
            }
        }
    }

    interface Play { int[] of(List<Integer> row); }

    /** SERVED, STRANDED, ways, then the first row. */
    static List<Integer> finest(int n, Play play) {
        List<List<Integer>> all = new ArrayList<>();
        rows(n, new ArrayList<>(), all);
        int top = Integer.MIN_VALUE;
        int ways = 0;
        List<Integer> answer = null;
        for (List<Integer> row : all) {
            int[] end = play.of(row);
            int worth = end[0] * 100 - end[1];
            if (worth > top) {
                top = worth;
                ways = 0;
                answer = new ArrayList<>(List.of(end[0], end[1], 0));
                answer.addAll(row);
            }
            if (worth == top) answer.set(2, ++ways);
        }
        return answer;
    }

    List<Integer> bestRow() {
        Walk shared = new Walk(state.books);
        return finest(state.askings.size(), row -> {
            Walk w = new Walk(state.books);
            w.carry.putAll(shared.carry);
            List<int[]> order = new ArrayList<>();
            for (int a : row) order.add(state.askings.get(a));
            int served = Integer.bitCount(servedBits(w, order));
            shared.carry.putAll(w.carry);
            return new int[] {served, Integer.bitCount(w.stranded())};
        });
    }

    int best(int what) {
        List<Integer> row = bestRow();
        return what >= 0 && what < row.size() ? row.get(what) : -1;
    }

    List<Integer> builtRow() {
        return finest(state.books.size(), row -> {
            List<Book> books = new ArrayList<>();
            for (int b : row) books.add(state.books.get(b));
            Walk w = new Walk(books);
            int served = Integer.bitCount(servedBits(w, moved(row)));
            return new int[] {served, Integer.bitCount(w.stranded())};
        });
    }

    List<int[]> moved(List<Integer> row) {
        List<int[]> askings = new ArrayList<>();
        for (int[] a : state.askings) askings.add(new int[] {a[0], row.indexOf(a[1])});
        return askings;
    }

    int built(int what) {
        if (state.books.size() > 6) return -1;
        List<Integer> row = builtRow();
        return what >= 0 && what < row.size() ? row.get(what) : -1;
    }

    int build() {
        if (state.books.size() > 6) return refuse(-3);
        List<Integer> all = builtRow();
        return done(arrange(all.subList(3, all.size())));
    }

    int arrange(List<Integer> row) {
        List<Book> books = new ArrayList<>();
        int elsewhere = 0;
        for (int i = 0; i < row.size(); i++) {
            books.add(state.books.get(row.get(i)));
            if (row.get(i) != i) elsewhere++;
        }
        state.askings = moved(row);
        state.books = books;
        return elsewhere;
    }

    int swap(int one, int other) {
        if (!isTread(one) || !isTread(other)) return refuse(-2);
        if (one == other) return refuse(-3);
        List<Integer> row = new ArrayList<>();
        for (int i = 0; i < state.books.size(); i++) row.add(i);
        Collections.swap(row, one, other);
        arrange(row);
        return done(0);
    }

    int tracks(int treads, int what) {
        if (treads < 0 || treads >= 1 << state.books.size() || what < 0 || what > 2) return -1;
        Map<Integer, Integer> ways = new HashMap<>();
        for (int r = 0; r < state.readers.size() && !state.books.isEmpty(); r++) {
            List<Integer> way = new Walk(state.books).way(r, state.books.size() - 1);
            if (way != null) {
                int bits = 0;
                for (int t : way) bits |= 1 << t;
                ways.put(r, bits);
            }
        }
        List<Integer> good = new ArrayList<>();
        for (int set = 0; set < 64; set++) {
            int together = 0;
            boolean can = true;
            for (int r = 0; r < 6; r++) {
                if ((set >> r & 1) == 1) {
                    can &= ways.containsKey(r);
                    together |= ways.getOrDefault(r, 0);
                }
            }
            if (can && together == treads) good.add(set);
        }
        if (what == 0) return good.size();
        if (good.isEmpty()) return -1;
        if (what == 1) return pick(good, 1, false);
        int all = -1;
        for (int set : good) all &= set;
        return all;
    }

    int sorted(int i) {
        int n = state.books.size();
        List<List<Integer>> longest = new ArrayList<>();
        longest.add(new ArrayList<>());
        for (int set = 0; set < 1 << n; set++) {
            List<Integer> row = new ArrayList<>();
            boolean falls = true;
            for (int t = 0; t < n; t++) {
                if ((set >> t & 1) == 1) {
                    falls &= row.isEmpty() || state.books.get(row.get(row.size() - 1)).thick >= state.books.get(t).thick;
                    row.add(t);
                }
            }
            if (falls && row.size() >= longest.get(0).size()) {
                if (row.size() > longest.get(0).size()) longest.clear();
                longest.add(row);
            }
        }
        longest.sort((a, b) -> {
            for (int k = 0; k < a.size(); k++) if (!a.get(k).equals(b.get(k))) return a.get(k) - b.get(k);
            return 0;
        });
        List<Integer> stay = longest.get(0);
        return i == -1 ? n - stay.size() : i >= 0 && i < stay.size() ? stay.get(i) : -1;
    }

    int toe(int thick) {
        if (!bookFits(0, thick)) return refuse(-1);
        if (state.toes.size() == 8) return refuse(-5);
        state.toes.add(thick);
        return done(state.toes.size());
    }

    int lift() {
        int n = state.toes.size();
        state.toes.clear();
        return n;
    }

    int places(int off, int i) {
        if (off < 0 || off > 8 || state.toes.isEmpty()) return -1;
        List<Integer> found = new ArrayList<>();
        next:
        for (int t = 0; t < state.books.size(); t++) {
            for (int k = 0; k < state.toes.size(); k++) {
                if (t + k >= state.books.size()) continue next;
                if (Math.abs(state.books.get(t + k).thick - state.toes.get(k)) > off) continue next;
            }
            found.add(t);
        }
        return i == -1 ? found.size() : i >= 0 && i < found.size() ? found.get(i) : -1;
    }

    int days(int seed, int n) {
        if (seed < 0 || seed > 1000000 || n < 1 || n > 20) return refuse(-1);
        latest.clear();
        long s = seed;
        int all = 0;
        Map<Integer, Boolean> carry = new HashMap<>();
        for (int d = 0; d < n; d++) {
            Walk w = new Walk(state.books);
            w.carry.putAll(carry);
            int served = 0;
            for (int k = 0; k < 6 && !state.readers.isEmpty() && !state.books.isEmpty(); k++) {
                s = (s * 1103 + 12345) % 1000003;
                int r = (int) (s % state.readers.size());
                s = (s * 1103 + 12345) % 1000003;
                int t = (int) (s % state.books.size());
                if (w.serve(r, t)) served++;
            }
            carry.putAll(w.carry);
            all += served;
            latest.add(new int[] {served, w.stranded(), w.outBits()});
        }
        return done(all);
    }

    int drawn(int i, int what) {
        return i < 0 || i >= latest.size() || what < 0 || what > 2 ? -1 : latest.get(i)[what];
    }

    int image(int k) {
        if (k != 0 && k != 1) return refuse(-1);
        images[k] = state.copy();
        return done(0);
    }

    int back(int k) {
        if (k != 0 && k != 1) return refuse(-1);
        if (images[k] == null) return refuse(-2);
        state = images[k].copy();
        return done(0);
    }

    int count(int what) {
        int outs = 0;
        for (Book b : state.books) outs += b.out;
        return switch (what) {
            case 0 -> state.books.size();
            case 1 -> state.readers.size();
            case 2 -> state.laws.size();
            case 3 -> state.askings.size();
            case 4 -> outs;
            case 5 -> state.toes.size();
            case 6 -> tape.size();
            case 7 -> refused.getOrDefault(-1, 0);
            case 8 -> refused.getOrDefault(-2, 0);
            case 9 -> refused.getOrDefault(-3, 0);
            case 10 -> refused.getOrDefault(-5, 0);
            case 11 -> refused.getOrDefault(-6, 0);
            case 12 -> state.inForce;
            case 13 -> state.hour;
            case 14 -> state.drop;
            default -> -1;
        };
    }

    int status() { return status; }
}
