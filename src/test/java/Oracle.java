import java.util.ArrayList;
import java.util.Arrays;
import java.util.List;
import java.util.TreeMap;

/**
 * The document told a second time, as plainly and slowly as can be: nothing is kept but what was told, every answer is
 * reckoned anew, choices are tried one by one. OracleTest asks it and the class the same things.
 */
final class Oracle {
    private static final int NONE = -1, UNKNOWN = -100001, OUTSIDE = -100002, NOT = -100003, FULL = -100004;
    private static final List<String> NAMES =
        List.of("lapse", "miles", "worth", "void", "lapsed", "decay", "steps", "fee");
    private static final int[] BOUND = {24, 99, 999, 1, 1, 2, 999, 999};
    private static final int[] START = {6, 30, 100, 0, 0, 0, 0, 0};
    private static final List<String> FACTS = List.of("age", "orders", "holds", "far", "rich", "leave");
    private static final String HAS_L = "...xx..xxxxx.", HAS_P = "xxxxxxxxxx...", HAS_Q = "...x..xx.x...";

    record Paper(int n, int kind, int day, int told, int l, int p, int q, int v) { }

    record Canon(int n, int day, List<List<String>> clauses) { }

    record Piece(int name, int x, int y, int from, int to) { }

    record Field(int name, int acres, int neighbour) { }

    record Change(int l, int p, boolean fall, int day, int count, int paper) { }

    static final class Seat {
        final List<Integer> holders = new ArrayList<>();
        Integer empty = 0;
        int cause = 0;
        final List<Integer> right = new ArrayList<>();
        int turn = 0;
        final List<Paper> sold = new ArrayList<>();
    }

    private int now;
    private final List<Integer> estates = new ArrayList<>();
    private final List<int[]> livings = new ArrayList<>();
    private final List<Paper> papers = new ArrayList<>();
    private final List<Canon> canons = new ArrayList<>();
    private String text = "";
    private int faultAt = NONE;
    private final List<List<Integer>> suits = new ArrayList<>();
    private final List<List<Field>> fields = new ArrayList<>();
    private final List<Piece> pieces = new ArrayList<>();

    private static boolean in(int v, int a, int b) {
        return a <= v && v <= b;
    }

    private boolean noPerson(int p) {
        return !in(p, 0, estates.size() - 1);
    }

    private boolean noLiving(int l) {
        return !in(l, 0, livings.size() - 1);
    }

    private static boolean noDay(int d) {
        return !in(d, 0, 30000);
    }

    private boolean noKnown(int d) {
        return !in(d, 0, now);
    }

    int go(int n) {
        if (!in(n, 0, 9999)) {
            return OUTSIDE;
        }
        return now + n > 30000 ? NOT : (now += n);
    }

    int person(int estate) {
        if (!in(estate, 0, 9999)) {
            return OUTSIDE;
        }
        if (estates.size() == 40) {
            return FULL;
        }
        estates.add(estate);
        return estates.size() - 1;
    }

    int living(int x, int y, int worth) {
        if (!in(x, -50, 50) || !in(y, -50, 50) || !in(worth, 0, 999)) {
            return OUTSIDE;
        }
        if (livings.size() == 12) {
            return FULL;
        }
        livings.add(new int[] {x, y, worth});
        fields.add(new ArrayList<>());
        fields.add(new ArrayList<>());
        return livings.size() - 1;
    }

    int set(int what, int i, int v) {
        if (what == 0) {
            if (noLiving(i)) {
                return UNKNOWN;
            }
            if (!in(v, 0, 999)) {
                return OUTSIDE;
            }
            int was = livings.get(i)[2];
            livings.get(i)[2] = v;
            return was;
        }
        if (what == 1) {
            if (noPerson(i)) {
                return UNKNOWN;
            }
            return in(v, 0, 9999) ? estates.set(i, v) : OUTSIDE;
        }
        return OUTSIDE;
    }

    private static boolean has(String row, int kind) {
        return in(kind, 0, 12) && row.charAt(kind) == 'x';
    }

    int paper(int kind, int day, int l, int p, int q, int v) {
        if (has(HAS_P, kind) && noPerson(p) || has(HAS_L, kind) && noLiving(l)) {
            return UNKNOWN;
        }
        if (has(HAS_Q, kind) && noPerson(q) && !(kind == 3 && (q == -2 || q == -3 || q == -4))) {
            return UNKNOWN;
        }
        if (kind == 12 && !in(v, 0, papers.size() - 1)) {
            return UNKNOWN;
        }
        if (!in(kind, 0, 12) || !in(day, 0, now) || kind == 11 && !in(v, 0, 9999)) {
            return OUTSIDE;
        }
        if ((kind == 6 || kind == 7) && p == q) {
            return OUTSIDE;
        }
        if (papers.size() == 150) {
            return FULL;
        }
        papers.add(new Paper(papers.size(), kind, day, now, has(HAS_L, kind) ? l : NONE, has(HAS_P, kind) ? p : NONE,
            has(HAS_Q, kind) ? q : NONE, kind > 10 ? v : NONE));
        return papers.size() - 1;
    }

    private boolean voidBy(int n, int known) {
        for (Paper o : papers) {
            if (o.kind == 12 && o.v == n && o.told <= known && !voidBy(o.n, known)) {
                return true;
            }
        }
        return false;
    }

    private List<Paper> bookOf(int known) {
        List<Paper> all = new ArrayList<>();
        boolean[] nothing = new boolean[papers.size()];
        for (int n = papers.size() - 1; n >= 0; n--) {
            Paper o = papers.get(n);
            if (o.told <= known && !nothing[n] && o.kind == 12) {
                nothing[o.v] = true;
            }
        }
        for (Paper o : papers) {
            if (o.told <= known && !nothing[o.n]) {
                all.add(o);
            }
        }
        all.sort((a, b) -> a.day != b.day ? Integer.compare(a.day, b.day) : Integer.compare(a.n, b.n));
        return all;
    }

    int told(int i, int what) {
        if (!in(i, 0, papers.size() - 1)) {
            return UNKNOWN;
        }
        if (!in(what, 0, 7)) {
            return OUTSIDE;
        }
        Paper o = papers.get(i);
        return new int[] {o.kind, o.day, o.told, o.l, o.p, o.q, o.v, bookOf(now).contains(o) ? 0 : 1}[what];
    }

    int book(int known, int i) {
        if (noKnown(known)) {
            return OUTSIDE;
        }
        List<Paper> all = bookOf(known);
        return in(i, 0, all.size() - 1) ? all.get(i).n : NONE;
    }

    private static int firstOf(List<Paper> book, int kind, int p) {
        for (Paper o : book) {
            if (o.kind == kind && o.p == p) {
                return o.day;
            }
        }
        return NONE;
    }

    private static boolean by(List<Paper> book, int kind, int p, int day) {
        int d = firstOf(book, kind, p);
        return d >= 0 && d <= day;
    }

    private static int heirOf(List<Paper> book, int p, int day) {
        int heir = NONE;
        for (Paper o : book) {
            if (o.kind == 6 && o.p == p && o.day <= day) {
                heir = o.q;
            }
        }
        return heir;
    }

    int about(int p, int known, int what) {
        if (noPerson(p)) {
            return UNKNOWN;
        }
        if (noKnown(known) || !in(what, 0, 4)) {
            return OUTSIDE;
        }
        List<Paper> book = bookOf(known);
        if (what < 3) {
            return firstOf(book, what, p);
        }
        return what == 3 ? heirOf(book, p, 30000) : by(book, 5, p, 30000) ? 1 : 0;
    }

    int count(int what) {
        if (!in(what, 0, 10)) {
            return OUTSIDE;
        }
        int empty = 0;
        int claimed = 0;
        for (Seat s : new Story(now, now, NONE).seats) {
            empty += s.holders.isEmpty() ? 1 : 0;
            claimed += s.holders.size() > 1 ? 1 : 0;
        }
        int voids = 0;
        for (Paper o : papers) {
            voids += voidBy(o.n, now) ? 1 : 0;
        }
        return new int[] {now, estates.size(), livings.size(), papers.size(), voids, canons.size(), suits.size(),
            pieces.size(), empty, claimed, text.length()}[what];
    }

    // ---- canons

    int feed(int n, long bytes) {
        if (!in(n, 1, 8)) {
            return OUTSIDE;
        }
        if (text.length() + n > 200) {
            return FULL;
        }
        for (int k = 8 - n; k < 8; k++) {
            text += (char) (bytes << 8 * k >>> 56);
        }
        return text.length();
    }

    int canon(int day) {
        if (noDay(day)) {
            return OUTSIDE;
        }
        if (canons.size() == 10) {
            return FULL;
        }
        Reading r = new Reading(text, canons.size());
        text = "";
        faultAt = r.fault == 0 ? NONE : r.at;
        if (r.fault != 0) {
            return -10 - r.fault;
        }
        canons.add(new Canon(canons.size(), day, r.clauses));
        return canons.size() - 1;
    }

    int fault() {
        return faultAt;
    }

    /** A text taken sign by sign by a table of what may come next. */
    static final class Reading {
        int fault;
        int at;
        final List<List<String>> clauses = new ArrayList<>();
        private String state = "clause";
        private int open;
        private boolean behindUnless;
        private int name;

        Reading(String text, int canons) {
            int i = 0;
            while (fault == 0) {
                while (i < text.length() && text.charAt(i) == ' ') {
                    i++;
                }
                at = i;
                if (i == text.length()) {
                    if (!state.equals("clause")) {
                        fault = 1;
                    }
                    return;
                }
                int j = i;
                while (j < text.length() && Character.toString(text.charAt(j)).matches("[a-z]")) {
                    j++;
                }
                if (j == i) {
                    while (j < text.length() && Character.toString(text.charAt(j)).matches("[0-9]")) {
                        j++;
                    }
                }
                if (j == i) {
                    j++;
                }
                String token = text.substring(i, j);
                fault = take(token, canons);
                if (fault == 0 && !token.equals(";")) {
                    clauses.get(clauses.size() - 1).add(token);
                }
                i = j;
            }
        }

        private int take(String t, int canons) {
            boolean number = t.matches("[0-9]+");
            switch (state) {
                case "clause":
                    if (!List.of("let", "bar", "strike").contains(t)) {
                        return 1;
                    }
                    if (clauses.size() == 12) {
                        return 4;
                    }
                    clauses.add(new ArrayList<>());
                    behindUnless = false;
                    state = t.equals("let") ? "name" : t.equals("bar") ? "one" : "canon";
                    return 0;
                case "name":
                    name = NAMES.indexOf(t);
                    state = "number";
                    return name < 0 ? 1 : 0;
                case "number":
                    state = "end";
                    return !number ? 1 : t.length() > 4 || Integer.parseInt(t) > BOUND[name] ? 2 : 0;
                case "canon":
                    state = "end";
                    return !number ? 1 : t.length() > 4 ? 2 : Integer.parseInt(t) >= canons ? 3 : 0;
                case "one":
                    if (t.equals("not")) {
                        return 0;
                    }
                    if (t.equals("(")) {
                        open++;
                        return open > 8 ? 5 : 0;
                    }
                    state = "sign";
                    return FACTS.contains(t) ? 0 : 1;
                case "sign":
                    state = "bound";
                    return List.of("<", ">", "=").contains(t) ? 0 : 1;
                case "bound":
                    state = "behind";
                    return !number ? 1 : t.length() > 4 ? 2 : 0;
                case "behind":
                    if (t.equals("and") || t.equals("or")) {
                        state = "one";
                        return 0;
                    }
                    if (t.equals(")") && open > 0) {
                        open--;
                        return 0;
                    }
                    if (t.equals("unless") && open == 0 && !behindUnless) {
                        behindUnless = true;
                        state = "one";
                        return 0;
                    }
                    state = "clause";
                    return t.equals(";") && open == 0 ? 0 : 1;
                default:
                    state = "clause";
                    return t.equals(";") ? 0 : 1;
            }
        }
    }

    private List<Canon> counting(int day) {
        List<Canon> found = new ArrayList<>();
        List<Integer> struck = new ArrayList<>();
        for (int c = canons.size() - 1; c >= 0; c--) {
            Canon k = canons.get(c);
            if (k.day > day || struck.contains(c)) {
                continue;
            }
            found.add(k);
            for (List<String> clause : k.clauses) {
                if (clause.get(0).equals("strike")) {
                    struck.add(Integer.parseInt(clause.get(1)));
                }
            }
        }
        found.sort((a, b) -> a.day != b.day ? Integer.compare(a.day, b.day) : Integer.compare(a.n, b.n));
        return found;
    }

    private int[] rules(String name, int day) {
        int[] rule = {START[NAMES.indexOf(name)], NONE};
        for (Canon c : counting(day)) {
            for (List<String> clause : c.clauses) {
                if (clause.get(0).equals("let") && clause.get(1).equals(name)) {
                    rule = new int[] {Integer.parseInt(clause.get(2)), c.n};
                }
            }
        }
        return rule;
    }

    private int rule(String name, int day) {
        return rules(name, day)[0];
    }

    int force(int name, int day, int what) {
        return !in(name, 0, 7) || noDay(day) || !in(what, 0, 1) ? OUTSIDE : rules(NAMES.get(name), day)[what];
    }

    int counts(int canon, int day) {
        if (!in(canon, 0, canons.size() - 1)) {
            return UNKNOWN;
        }
        if (noDay(day)) {
            return OUTSIDE;
        }
        Canon c = canons.get(canon);
        return counting(day).contains(c) ? c.clauses.size() : 0;
    }

    /** Descends into a test by its words. */
    static final class Test {
        private final List<String> words;
        private final int[] facts;
        private int at;

        Test(List<String> words, int[] facts) {
            this.words = words;
            this.facts = facts;
        }

        private boolean next(String w) {
            if (at < words.size() && words.get(at).equals(w)) {
                at++;
                return true;
            }
            return false;
        }

        boolean test() {
            boolean met = both();
            while (next("or")) {
                met |= both();
            }
            return met;
        }

        private boolean both() {
            boolean met = one();
            while (next("and")) {
                met &= one();
            }
            return met;
        }

        private boolean one() {
            if (next("not")) {
                return !one();
            }
            if (next("(")) {
                boolean met = test();
                next(")");
                return met;
            }
            int fact = facts[FACTS.indexOf(words.get(at))];
            String sign = words.get(at + 1);
            int number = Integer.parseInt(words.get(at + 2));
            at += 3;
            if (fact == NONE) {
                return false;
            }
            return sign.equals("<") ? fact < number : sign.equals(">") ? fact > number : fact == number;
        }
    }

    int barred(int p, int l, int day, int known) {
        if (noPerson(p) || noLiving(l)) {
            return UNKNOWN;
        }
        return noDay(day) || noKnown(known) ? OUTSIDE : new Story(known, day, NONE).bar(p, l, day);
    }

    // ---- the story

    private int miles(int a, int b) {
        int[] s = livings.get(a);
        int[] t = livings.get(b);
        return Math.abs(s[0] - t[0]) + Math.abs(s[1] - t[1]);
    }

    final class Story {
        final List<Seat> seats = new ArrayList<>();
        final List<Change> changes = new ArrayList<>();
        final List<Paper> book;
        /** The LIVINGS that a PERSON holds, by when it became HOLDER. */
        final TreeMap<Integer, List<Integer>> held = new TreeMap<>();
        int why = NONE;

        /** Up to a DAY, or, if a PAPER is named, up to that, with why it is not GOOD. */
        Story(int known, int until, int asked) {
            book = bookOf(known);
            for (int l = 0; l < livings.size(); l++) {
                seats.add(new Seat());
            }
            for (int p = 0; p < estates.size(); p++) {
                held.put(p, new ArrayList<>());
            }
            for (Paper o : book) {
                if (o.day > until) {
                    break;
                }
                if (o.n == asked) {
                    why = whyNot(o);
                    break;
                }
                take(o);
            }
        }

        private void take(Paper o) {
            Seat s = o.l >= 0 ? seats.get(o.l) : null;
            if (o.kind == 1) {
                for (int l = 0; l < livings.size(); l++) {
                    out(l, o.p, o, 1);
                }
            } else if (o.kind == 3) {
                comesIn(o);
            } else if (o.kind == 4) {
                out(o.l, o.p, o, 2);
            } else if (o.kind == 7 || o.kind == 8) {
                s.right.clear();
                s.right.add(o.p);
                if (o.kind == 7) {
                    s.right.add(o.q);
                }
                s.turn = 0;
            } else if (o.kind == 9) {
                s.sold.add(o);
            }
        }

        private void out(int l, int p, Paper o, int cause) {
            Seat s = seats.get(l);
            if (s.holders.contains(p)) {
                s.holders.remove((Integer) p);
                held.get(p).remove((Integer) l);
                if (s.holders.isEmpty()) {
                    s.empty = o.day;
                    s.cause = cause;
                }
                changes.add(new Change(l, p, true, o.day, s.holders.size(), o.n));
            }
        }

        private int whyNot(Paper o) {
            int why = 0;
            why += seats.get(o.l).holders.isEmpty() ? 0 : 1;
            why += by(book, 1, o.p, o.day) ? 2 : 0;
            why += bar(o.p, o.l, o.day) == NONE ? 0 : 4;
            why += who(o.l, o.day) == o.q ? 0 : 8;
            return why;
        }

        private void comesIn(Paper o) {
            Seat s = seats.get(o.l);
            boolean good = whyNot(o) == 0;
            boolean used = (good || rule("void", o.day) == 1) && o.q == patron(o.l, o.day);
            used |= good && lapsed(o.l, o.day) > 0 && rule("lapsed", o.day) == 1;
            if (used && !s.right.isEmpty()) {
                Paper sale = sale(o.l);
                s.sold.remove(sale);
                s.turn = s.right.size() == 2 ? 1 - s.turn : 0;
            }
            if (!s.holders.contains(o.p)) {
                s.holders.add(o.p);
                held.get(o.p).add(o.l);
                changes.add(new Change(o.l, o.p, false, o.day, s.holders.size(), o.n));
            }
            List<Integer> others = new ArrayList<>(held.get(o.p));
            others.remove((Integer) o.l);
            if (others.isEmpty()) {
                return;
            }
            int last = others.get(others.size() - 1);
            int worth = rule("worth", o.day);
            if (by(book, 5, o.p, o.day) && miles(last, o.l) <= rule("miles", o.day) && livings.get(last)[2] <= worth
                && livings.get(o.l)[2] <= worth) {
                others.remove((Integer) last);
            }
            others.sort(Integer::compare);
            for (int l : others) {
                out(l, o.p, o, 3);
            }
        }

        private Paper sale(int l) {
            Seat s = seats.get(l);
            for (Paper o : s.sold) {
                if (!s.right.isEmpty() && o.p == s.right.get(s.turn)) {
                    return o;
                }
            }
            return null;
        }

        private int patron(int l, int day) {
            Seat s = seats.get(l);
            if (s.right.isEmpty()) {
                return -4;
            }
            int p = sale(l) == null ? s.right.get(s.turn) : sale(l).q;
            for (int k = 0; k <= 12; k++) {
                if (!by(book, 1, p, day)) {
                    return p;
                }
                p = heirOf(book, p, day);
                if (p == NONE) {
                    return -4;
                }
            }
            return -4;
        }

        private int lapsed(int l, int day) {
            Seat s = seats.get(l);
            int months = rule("lapse", s.empty);
            int from = s.empty;
            if (s.cause == 2) {
                from = 99999;
                for (Paper o : book) {
                    if (o.kind == 10 && o.l == l && o.day >= s.empty) {
                        from = Math.min(from, o.day);
                    }
                }
            }
            int gone = day - from;
            if (months == 0 || gone < 30 * months) {
                return 0;
            }
            return gone < 60 * months ? 1 : gone < 90 * months ? 2 : 3;
        }

        int who(int l, int day) {
            if (!seats.get(l).holders.isEmpty()) {
                return NONE;
            }
            int stage = lapsed(l, day);
            return stage == 0 ? patron(l, day) : -1 - stage;
        }

        int bar(int p, int l, int day) {
            int far = 0;
            int holds = 0;
            for (int o : held.get(p)) {
                if (o != l) {
                    holds++;
                    far = Math.max(far, miles(o, l));
                }
            }
            int born = firstOf(book, 0, p);
            int priested = firstOf(book, 2, p);
            int[] facts = {born < 0 || born > day ? NONE : (day - born) / 360,
                priested < 0 || priested > day ? NONE : day - priested, holds, far, livings.get(l)[2],
                by(book, 5, p, day) ? 1 : 0};
            for (Canon c : counting(day)) {
                for (int k = 0; k < c.clauses.size(); k++) {
                    List<String> clause = c.clauses.get(k);
                    if (!clause.get(0).equals("bar")) {
                        continue;
                    }
                    int unless = clause.indexOf("unless");
                    boolean met = new Test(clause.subList(1, unless < 0 ? clause.size() : unless), facts).test();
                    if (met && unless >= 0) {
                        met = !new Test(clause.subList(unless + 1, clause.size()), facts).test();
                    }
                    if (met) {
                        return 100 * c.n + k;
                    }
                }
            }
            return NONE;
        }
    }

    int seat(int l, int day, int known, int what) {
        if (noLiving(l)) {
            return UNKNOWN;
        }
        if (noDay(day) || noKnown(known) || !in(what, 0, 7)) {
            return OUTSIDE;
        }
        Story t = new Story(known, day, NONE);
        Seat s = t.seats.get(l);
        long set = 0;
        for (int p : s.holders) {
            set |= p < 31 ? 1L << p : 0;
        }
        boolean empty = s.holders.isEmpty();
        return new int[] {s.holders.size(), empty ? NONE : s.holders.get(0), (int) set, empty ? s.empty : NONE,
            empty ? s.cause : NONE, t.who(l, day), s.right.isEmpty() ? NONE : s.right.get(s.turn), s.sold.size()}[what];
    }

    int why(int paper, int known) {
        if (!in(paper, 0, papers.size() - 1)) {
            return UNKNOWN;
        }
        if (noKnown(known)) {
            return OUTSIDE;
        }
        if (papers.get(paper).kind != 3 || !bookOf(known).contains(papers.get(paper))) {
            return NOT;
        }
        return new Story(known, 30000, paper).why;
    }

    int good(int paper, int known) {
        int why = why(paper, known);
        return why < 0 ? why : why == 0 ? 1 : 0;
    }

    int change(int l, int known, int i, int what) {
        if (noLiving(l)) {
            return UNKNOWN;
        }
        if (noKnown(known) || !in(what, 0, 2)) {
            return OUTSIDE;
        }
        List<Change> of = new ArrayList<>();
        for (Change c : new Story(known, 30000, NONE).changes) {
            if (c.l == l) {
                of.add(c);
            }
        }
        if (!in(i, 0, of.size() - 1)) {
            return NONE;
        }
        return new int[] {of.get(i).day, of.get(i).count, of.get(i).paper}[what];
    }

    int days(int l, int a, int b, int known, int what) {
        if (noLiving(l)) {
            return UNKNOWN;
        }
        if (noDay(a) || noDay(b) || b < a || b - a > 5000 || noKnown(known) || !in(what, 0, 2)) {
            return OUTSIDE;
        }
        List<Change> all = new Story(known, 30000, NONE).changes;
        int[] then = new int[30001];
        for (Change c : all) {
            if (c.l == l) {
                Arrays.fill(then, c.day, 30001, c.count);
            }
        }
        int found = 0;
        for (int d = a; d <= b; d++) {
            found += (then[d] > 1 ? 2 : then[d]) == what ? 1 : 0;
        }
        return found;
    }

    int news(int day, int a, int b) {
        if (noDay(day) || noKnown(a) || noKnown(b)) {
            return OUTSIDE;
        }
        Story s = new Story(a, day, NONE);
        Story t = new Story(b, day, NONE);
        int found = 0;
        for (int l = 0; l < livings.size(); l++) {
            List<Integer> x = new ArrayList<>(s.seats.get(l).holders);
            List<Integer> y = new ArrayList<>(t.seats.get(l).holders);
            x.sort(Integer::compare);
            y.sort(Integer::compare);
            found += x.equals(y) ? 0 : 1;
        }
        return found;
    }

    // ---- suits, decay

    int present(int p, int l, int day) {
        if (noPerson(p) || noLiving(l)) {
            return UNKNOWN;
        }
        if (!in(day, 0, now)) {
            return OUTSIDE;
        }
        if (suits.size() == 20) {
            return FULL;
        }
        suits.add(new ArrayList<>(List.of(day)));
        return suits.size() - 1;
    }

    int step(int suit, int day) {
        if (!in(suit, 0, suits.size() - 1)) {
            return UNKNOWN;
        }
        List<Integer> s = suits.get(suit);
        if (!in(day, s.get(s.size() - 1), now)) {
            return OUTSIDE;
        }
        if (s.size() == 6) {
            return NOT;
        }
        s.add(day);
        return s.size() - 1;
    }

    int appeal(int suit, int k) {
        if (!in(suit, 0, suits.size() - 1)) {
            return UNKNOWN;
        }
        if (!in(k, 1, 5)) {
            return OUTSIDE;
        }
        List<Integer> s = suits.get(suit);
        if (k >= s.size()) {
            return NOT;
        }
        s.subList(k, s.size()).clear();
        return s.size() - 1;
    }

    int suit(int suit, int day, int what) {
        if (!in(suit, 0, suits.size() - 1)) {
            return UNKNOWN;
        }
        if (noDay(day) || !in(what, 0, 3)) {
            return OUTSIDE;
        }
        List<Integer> s = suits.get(suit);
        int steps = 0;
        int last = NONE;
        int fees = 0;
        for (int k = 0; k < s.size(); k++) {
            if (s.get(k) <= day) {
                last = s.get(k);
                steps = k;
            }
            fees += k > 0 ? rule("fee", s.get(k)) : 0;
        }
        int patience = rule("steps", day);
        int sleeps = steps < 5 && patience > 0 && last >= 0 && day - last > patience ? 1 : 0;
        return new int[] {steps, last, sleeps, fees}[what];
    }

    int decay(int p, int l, int known, int what) {
        if (noPerson(p) || noLiving(l)) {
            return UNKNOWN;
        }
        if (noKnown(known) || !in(what, 0, 3)) {
            return OUTSIDE;
        }
        Story t = new Story(known, 30000, NONE);
        int has = estates.get(p);
        for (int k = 0; ; k++) {
            int end = NONE;
            for (Change c : t.changes) {
                end = c.l == k && c.p == p && c.fall ? c.day : end;
            }
            List<Integer> seen = new ArrayList<>();
            for (Paper o : t.book) {
                if (o.kind == 11 && o.l == k && end >= 0 && in(o.day, end, end + 90) && seen.size() < 2) {
                    seen.add(o.v);
                }
            }
            int due = seen.isEmpty() ? 0 : seen.get(0);
            if (seen.size() == 2) {
                int a = seen.get(0);
                int b = seen.get(1);
                due = new int[] {Math.min(a, b), Math.max(a, b), (a + b) / 2}[rule("decay", end)];
            }
            int paid = Math.min(has, due);
            has -= paid;
            if (k == l) {
                return new int[] {end, due, paid, due - paid}[what];
            }
        }
    }

    // ---- terriers, pieces, visitations

    int field(int l, int year, int name, int acres, int neighbour) {
        if (noLiving(l)) {
            return UNKNOWN;
        }
        if (!in(year, 0, 1) || !in(name, 0, 99) || !in(acres, 1, 999) || !in(neighbour, 0, 99)) {
            return OUTSIDE;
        }
        List<Field> row = fields.get(2 * l + year);
        if (row.size() == 8) {
            return FULL;
        }
        row.add(new Field(name, acres, neighbour));
        return row.size() - 1;
    }

    private int best;
    private int[] bestRow;

    int match(int l, int i) {
        if (noLiving(l)) {
            return UNKNOWN;
        }
        List<Field> old = fields.get(2 * l);
        best = Integer.MAX_VALUE;
        tryFields(old, fields.get(2 * l + 1), new ArrayList<>(), 0);
        return i == NONE ? best : in(i, 0, old.size() - 1) ? bestRow[i] : NONE;
    }

    private void tryFields(List<Field> old, List<Field> young, List<Integer> row, int cost) {
        if (cost >= best) {
            return;
        }
        if (row.size() == old.size()) {
            int all = cost;
            for (int j = 0; j < young.size(); j++) {
                all += row.contains(j) ? 0 : 10 + young.get(j).acres / 10;
            }
            if (all < best) {
                best = all;
                bestRow = row.stream().mapToInt(x -> x).toArray();
            }
            return;
        }
        Field f = old.get(row.size());
        for (int j = 0; j <= young.size(); j++) {
            boolean alone = j == young.size();
            if (!alone && row.contains(j)) {
                continue;
            }
            int c = 10 + f.acres / 10;
            if (!alone) {
                Field g = young.get(j);
                c = Math.abs(f.acres - g.acres) + (f.name == g.name ? 0 : 7) + (f.neighbour == g.neighbour ? 0 : 3);
            }
            row.add(alone ? NONE : j);
            tryFields(old, young, row, cost + c);
            row.remove(row.size() - 1);
        }
    }

    int piece(int name, int x, int y, int from, int to) {
        if (!in(name, 0, 99) || !in(x, -50, 50) || !in(y, -50, 50) || noDay(from) || noDay(to) || to < from) {
            return OUTSIDE;
        }
        if (pieces.size() == 16) {
            return FULL;
        }
        pieces.add(new Piece(name, x, y, from, to));
        return pieces.size() - 1;
    }

    /** Whether b may come right behind a. */
    private boolean behind(int a, int b) {
        Piece s = pieces.get(a);
        Piece t = pieces.get(b);
        boolean sameDay = s.from == s.to && t.from == t.to && s.from == t.from;
        boolean ahead = sameDay ? a < b : s.to <= t.from;
        int far = Math.abs(s.x - t.x) + Math.abs(s.y - t.y);
        int needed = far / 20 + (far % 20 == 0 ? 0 : 1);
        return a != b && s.name == t.name && ahead && t.from - s.to >= needed;
    }

    int one(int a, int b) {
        if (!in(a, 0, pieces.size() - 1) || !in(b, 0, pieces.size() - 1)) {
            return UNKNOWN;
        }
        return behind(a, b) || behind(b, a) ? 1 : 0;
    }

    int lives(int i) {
        if (i != NONE && !in(i, 0, pieces.size() - 1)) {
            return UNKNOWN;
        }
        best = Integer.MAX_VALUE;
        tryRows(new ArrayList<>(), 0);
        return i == NONE ? best : bestRow[i];
    }

    /** Gives each PIECE one behind it or none, in the order in which ways come first; the first of the fewest stays. */
    private void tryRows(List<Integer> row, int rows) {
        if (rows >= best) {
            return;
        }
        if (row.size() == pieces.size()) {
            best = rows;
            bestRow = row.stream().mapToInt(x -> x).toArray();
            return;
        }
        int a = row.size();
        for (int b = 0; b < pieces.size(); b++) {
            if (behind(a, b) && !row.contains(b)) {
                row.add(b);
                tryRows(row, rows);
                row.remove(row.size() - 1);
            }
        }
        row.add(NONE);
        tryRows(row, rows + 1);
        row.remove(row.size() - 1);
    }

    private List<Integer> bestPlan;
    private int bestMiles;

    int plan(int set, int miles, int day) {
        List<Integer> seen = new ArrayList<>();
        for (int l = 0; l < 32; l++) {
            if ((set >>> l & 1) == 1) {
                if (noLiving(l)) {
                    return UNKNOWN;
                }
                seen.add(l);
            }
        }
        if (!in(seen.size(), 1, 8) || !in(miles, 1, 999) || day < -2) {
            return OUTSIDE;
        }
        bestPlan = null;
        tryDays(set, miles, new ArrayList<>(), 0);
        if (bestPlan == null) {
            return NOT;
        }
        if (day < 0) {
            return day == NONE ? bestPlan.size() : bestMiles;
        }
        return day < bestPlan.size() ? bestPlan.get(day) : 0;
    }

    private void tryDays(int left, int miles, List<Integer> days, int ridden) {
        if (left == 0) {
            boolean better = bestPlan == null || days.size() < bestPlan.size()
                || days.size() == bestPlan.size() && ridden < bestMiles;
            if (better) {
                bestPlan = new ArrayList<>(days);
                bestMiles = ridden;
            }
            return;
        }
        if (bestPlan != null && days.size() >= bestPlan.size()) {
            return;
        }
        for (int t = 1; t <= left; t++) {
            if ((t & left) == t) {
                int ride = ride(t, 0, 0);
                if (ride <= miles) {
                    days.add(t);
                    tryDays(left ^ t, miles, days, ridden + ride);
                    days.remove(days.size() - 1);
                }
            }
        }
    }

    private int ride(int left, int x, int y) {
        if (left == 0) {
            return Math.abs(x) + Math.abs(y);
        }
        int least = Integer.MAX_VALUE;
        for (int l = 0; l < livings.size(); l++) {
            if ((left >> l & 1) == 1) {
                int[] to = livings.get(l);
                least = Math.min(least, Math.abs(to[0] - x) + Math.abs(to[1] - y) + ride(left ^ 1 << l, to[0], to[1]));
            }
        }
        return least;
    }
}
