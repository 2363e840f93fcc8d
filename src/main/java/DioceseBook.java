/**
 * A diocese's registry, as ../shared/DOC.md tells it: the public methods look at their numbers and refuse; the
 * classes inside hold the rows and do the reckoning. Every row is made with the object, no call makes one.
 */
public final class DioceseBook {
    public static final int NONE = -1, BISHOP = -2, PRIMATE = -3, CROWN = -4,
        UNKNOWN = -100001, OUTSIDE = -100002, NOT = -100003, FULL = -100004, LARGE = -100005;

    private static final int LAST_DAY = 30000;
    private static final int MOST_GO = 9999;
    private static final int MOST_SPAN = 5000;
    private static final int MILES_IN_ALL = -2;
    /** The PERSONS of whom a SET can tell. */
    private static final int LOW_PERSONS = 0x7FFFFFFF;

    private final Register register;
    private final Papers papers;
    private final Canons canons;
    private final Reader reader;
    private final Story story;
    private final Suits suits;
    private final Terriers terriers;
    private final Lives pieces;
    private final Visitation visitation;
    private final long[] holdersBefore;
    private int now;

    public DioceseBook() {
        register = new Register();
        papers = new Papers();
        canons = new Canons();
        reader = new Reader(canons);
        story = new Story(register, papers, canons);
        suits = new Suits(canons);
        terriers = new Terriers();
        pieces = new Lives();
        visitation = new Visitation(register);
        holdersBefore = new long[Register.MOST_LIVINGS];
    }

    // ---- persons, livings, papers

    public int go(int n) {
        if (!within(n, 0, MOST_GO)) {
            return OUTSIDE;
        }
        if (now + n > LAST_DAY) {
            return NOT;
        }
        now += n;
        return now;
    }

    public int person(int estate) {
        if (!within(estate, 0, Register.MOST_ESTATE)) {
            return OUTSIDE;
        }
        return register.addPerson(estate);
    }

    public int living(int x, int y, int worth) {
        if (!isPlace(x, y) || !within(worth, 0, Register.MOST_WORTH)) {
            return OUTSIDE;
        }
        return register.addLiving(x, y, worth);
    }

    public int set(int what, int i, int v) {
        if (what == 0 && !isLiving(i) || what == 1 && !isPerson(i)) {
            return UNKNOWN;
        }
        if (what == 0 && within(v, 0, Register.MOST_WORTH)) {
            int was = register.worth[i];
            register.worth[i] = v;
            story.forget();
            return was;
        }
        if (what == 1 && within(v, 0, Register.MOST_ESTATE)) {
            int was = register.estate[i];
            register.estate[i] = v;
            return was;
        }
        return OUTSIDE;
    }

    public int paper(int kind, int day, int l, int p, int q, int v) {
        boolean knownOther = isPerson(q) || kind == Papers.IN && within(q, CROWN, BISHOP);
        if (Papers.hasLiving(kind) && !isLiving(l) || Papers.hasPerson(kind) && !isPerson(p)
            || Papers.hasOther(kind) && !knownOther || kind == Papers.VOID && !isPaper(v)) {
            return UNKNOWN;
        }
        if (!within(kind, 0, Papers.VOID) || !within(day, 0, now)
            || kind == Papers.SURVEY && !within(v, 0, Papers.MOST_SURVEY)
            || (kind == Papers.HEIR || kind == Papers.SHARED) && p == q) {
            return OUTSIDE;
        }
        if (papers.count >= Papers.MOST) {
            return FULL;
        }
        story.forget();
        return papers.add(kind, day, now, l, p, q, v);
    }

    public int told(int i, int what) {
        if (!isPaper(i)) {
            return UNKNOWN;
        }
        switch (what) {
            case 0: return papers.kind[i];
            case 1: return papers.day[i];
            case 2: return papers.toldOn[i];
            case 3: return papers.living[i];
            case 4: return papers.person[i];
            case 5: return papers.other[i];
            case 6: return papers.value[i];
            case 7:
                papers.open(now);
                return oneIf(papers.isVoid[i]);
            default: return OUTSIDE;
        }
    }

    public int book(int known, int i) {
        if (!isKnowable(known)) {
            return OUTSIDE;
        }
        papers.open(known);
        return within(i, 0, papers.size - 1) ? papers.leaf[i] : NONE;
    }

    public int about(int p, int known, int what) {
        if (!isPerson(p)) {
            return UNKNOWN;
        }
        if (!isKnowable(known) || !within(what, 0, 4)) {
            return OUTSIDE;
        }
        papers.open(known);
        switch (what) {
            case 0: return papers.first[Papers.BORN][p];
            case 1: return papers.first[Papers.DIED][p];
            case 2: return papers.first[Papers.PRIESTED][p];
            case 3: return papers.heirBy(p, LAST_DAY);
            default: return oneIf(papers.hadBy(Papers.LEAVE, p, LAST_DAY));
        }
    }

    public int count(int what) {
        switch (what) {
            case 0: return now;
            case 1: return register.persons;
            case 2: return register.livings;
            case 3: return papers.count;
            case 4:
                papers.open(now);
                return papers.count - papers.size;
            case 5: return canons.count;
            case 6: return suits.count;
            case 7: return pieces.count;
            case 8:
                story.tell(now, now);
                return story.livingsThatAre(Changes.EMPTY);
            case 9:
                story.tell(now, now);
                return story.livingsThatAre(Changes.CLAIMED);
            case 10: return reader.length;
            default: return OUTSIDE;
        }
    }

    // ---- canons

    public int feed(int n, long bytes) {
        if (!within(n, 1, 8)) {
            return OUTSIDE;
        }
        if (reader.length + n > Reader.MOST) {
            return FULL;
        }
        for (int k = n - 1; k >= 0; k--) {
            reader.append((int) (bytes >>> 8 * k) & 255);
        }
        return reader.length;
    }

    public int canon(int day) {
        if (!isDay(day)) {
            return OUTSIDE;
        }
        if (canons.count >= Canons.MOST) {
            return FULL;
        }
        int wrong = reader.readText();
        if (wrong != 0) {
            return -10 - wrong;
        }
        story.forget();
        return canons.enact(day);
    }

    public int fault() {
        return reader.faultAt;
    }

    public int force(int name, int day, int what) {
        if (!within(name, 0, Canons.NAMES - 1) || !isDay(day) || !within(what, 0, 1)) {
            return OUTSIDE;
        }
        canons.settle(day);
        return what == 0 ? canons.number[name] : canons.ruler[name];
    }

    public int counts(int canon, int day) {
        if (!within(canon, 0, canons.count - 1)) {
            return UNKNOWN;
        }
        if (!isDay(day)) {
            return OUTSIDE;
        }
        canons.settle(day);
        return canons.isCounting(canon) ? canons.clauses[canon] : 0;
    }

    public int barred(int p, int l, int day, int known) {
        if (!isPerson(p) || !isLiving(l)) {
            return UNKNOWN;
        }
        if (!isDay(day) || !isKnowable(known)) {
            return OUTSIDE;
        }
        story.tell(known, day);
        return story.barOf(p, l, day);
    }

    // ---- the story

    public int seat(int l, int day, int known, int what) {
        if (!isLiving(l)) {
            return UNKNOWN;
        }
        if (!isDay(day) || !isKnowable(known) || !within(what, 0, 7)) {
            return OUTSIDE;
        }
        story.tell(known, day);
        switch (what) {
            case 0: return story.holderCount(l);
            case 1: return story.firstHolder(l);
            case 2: return (int) (story.holders[l] & LOW_PERSONS);
            case 3: return story.emptyFrom[l];
            case 4: return story.emptyBy[l];
            case 5: return story.presenter(l, day);
            case 6: return story.rights.turnOf(l);
            default: return story.rights.soldLeft(l);
        }
    }

    public int good(int paper, int known) {
        int refusal = refusalOfIn(paper, known);
        if (refusal != 0) {
            return refusal;
        }
        story.tell(known, LAST_DAY);
        return oneIf(story.reasons[paper] == 0);
    }

    public int why(int paper, int known) {
        int refusal = refusalOfIn(paper, known);
        if (refusal != 0) {
            return refusal;
        }
        story.tell(known, LAST_DAY);
        return story.reasons[paper];
    }

    /** 0 if the PAPER is an IN in THE BOOK of that DAY. */
    private int refusalOfIn(int paper, int known) {
        if (!isPaper(paper)) {
            return UNKNOWN;
        }
        if (!isKnowable(known)) {
            return OUTSIDE;
        }
        papers.open(known);
        return papers.kind[paper] == Papers.IN && papers.isInBook(paper) ? 0 : NOT;
    }

    public int change(int l, int known, int i, int what) {
        if (!isLiving(l)) {
            return UNKNOWN;
        }
        if (!isKnowable(known) || !within(what, 0, 2)) {
            return OUTSIDE;
        }
        story.tell(known, LAST_DAY);
        int row = story.changes.rowOf(l, i);
        if (row == NONE) {
            return NONE;
        }
        switch (what) {
            case 0: return story.changes.day[row];
            case 1: return story.changes.left[row];
            default: return story.changes.paper[row];
        }
    }

    public int days(int l, int a, int b, int known, int what) {
        if (!isLiving(l)) {
            return UNKNOWN;
        }
        if (!isDay(a) || !isDay(b) || !within(b - a, 0, MOST_SPAN) || !isKnowable(known) || !within(what, 0, 2)) {
            return OUTSIDE;
        }
        story.tell(known, LAST_DAY);
        return story.changes.daysOf(l, a, b, what);
    }

    public int news(int day, int a, int b) {
        if (!isDay(day) || !isKnowable(a) || !isKnowable(b)) {
            return OUTSIDE;
        }
        story.tell(a, day);
        for (int l = 0; l < register.livings; l++) {
            holdersBefore[l] = story.holders[l];
        }
        story.tell(b, day);
        int unlike = 0;
        for (int l = 0; l < register.livings; l++) {
            if (holdersBefore[l] != story.holders[l]) {
                unlike++;
            }
        }
        return unlike;
    }

    // ---- suits, decay

    public int present(int p, int l, int day) {
        if (!isPerson(p) || !isLiving(l)) {
            return UNKNOWN;
        }
        if (!within(day, 0, now)) {
            return OUTSIDE;
        }
        return suits.add(day);
    }

    public int step(int suit, int day) {
        if (!isSuit(suit)) {
            return UNKNOWN;
        }
        if (!within(day, suits.lastDay(suit, LAST_DAY), now)) {
            return OUTSIDE;
        }
        return suits.addStep(suit, day);
    }

    public int appeal(int suit, int k) {
        if (!isSuit(suit)) {
            return UNKNOWN;
        }
        if (!within(k, 1, Suits.MOST_STEPS)) {
            return OUTSIDE;
        }
        return suits.undoFrom(suit, k);
    }

    public int suit(int suit, int day, int what) {
        if (!isSuit(suit)) {
            return UNKNOWN;
        }
        if (!isDay(day)) {
            return OUTSIDE;
        }
        switch (what) {
            case 0: return suits.stepsBy(suit, day);
            case 1: return suits.lastDay(suit, day);
            case 2: return oneIf(suits.sleeps(suit, day));
            case 3: return suits.fees(suit);
            default: return OUTSIDE;
        }
    }

    public int decay(int p, int l, int known, int what) {
        if (!isPerson(p) || !isLiving(l)) {
            return UNKNOWN;
        }
        if (!isKnowable(known) || !within(what, 0, 3)) {
            return OUTSIDE;
        }
        story.tell(known, LAST_DAY);
        if (what == 0) {
            return story.changes.lastFall(p, l);
        }
        int left = register.estate[p];
        for (int k = 0; k < l; k++) {
            left -= Math.min(left, story.decayOf(p, k));
        }
        int due = story.decayOf(p, l);
        int paid = Math.min(left, due);
        switch (what) {
            case 1: return due;
            case 2: return paid;
            default: return due - paid;
        }
    }

    // ---- terriers, pieces, visitations

    public int field(int l, int year, int name, int acres, int neighbour) {
        if (!isLiving(l)) {
            return UNKNOWN;
        }
        if (!within(year, 0, 1) || !isName(name) || !within(acres, 1, Terriers.MOST_ACRES) || !isName(neighbour)) {
            return OUTSIDE;
        }
        return terriers.add(2 * l + year, name, acres, neighbour);
    }

    public int match(int l, int i) {
        if (!isLiving(l)) {
            return UNKNOWN;
        }
        terriers.pair(l);
        return i == NONE ? terriers.leastCost() : terriers.partner(l, i);
    }

    public int piece(int name, int x, int y, int from, int to) {
        if (!isName(name) || !isPlace(x, y) || !isDay(from) || !isDay(to) || to < from) {
            return OUTSIDE;
        }
        return pieces.add(name, x, y, from, to);
    }

    public int one(int a, int b) {
        if (!isPiece(a) || !isPiece(b)) {
            return UNKNOWN;
        }
        return oneIf(pieces.joins(a, b) || pieces.joins(b, a));
    }

    public int lives(int i) {
        if (i != NONE && !isPiece(i)) {
            return UNKNOWN;
        }
        pieces.join();
        return i == NONE ? pieces.rows : pieces.behind[i];
    }

    public int plan(int set, int miles, int day) {
        if (set >>> register.livings != 0) {
            return UNKNOWN;
        }
        if (!within(Integer.bitCount(set), 1, Visitation.MOST) || !within(miles, 1, Visitation.MOST_MILES)
            || day < MILES_IN_ALL) {
            return OUTSIDE;
        }
        if (!visitation.prepare(set, miles)) {
            return NOT;
        }
        if (day == NONE) {
            return visitation.days;
        }
        return day == MILES_IN_ALL ? visitation.miles : visitation.setOf(day);
    }

    // ---- bounds

    private static boolean within(int v, int least, int most) {
        return v >= least && v <= most;
    }

    private static int oneIf(boolean b) {
        return b ? 1 : 0;
    }

    private static boolean isDay(int day) {
        return within(day, 0, LAST_DAY);
    }

    private static boolean isName(int name) {
        return within(name, 0, 99);
    }

    private static boolean isPlace(int x, int y) {
        return within(x, -Register.FARTHEST, Register.FARTHEST) && within(y, -Register.FARTHEST, Register.FARTHEST);
    }

    /** Nothing is known yet on a DAY to come: THE BOOK is of a DAY 0 .. NOW. */
    private boolean isKnowable(int day) {
        return within(day, 0, now);
    }

    private boolean isPerson(int p) {
        return within(p, 0, register.persons - 1);
    }

    private boolean isLiving(int l) {
        return within(l, 0, register.livings - 1);
    }

    private boolean isPaper(int i) {
        return within(i, 0, papers.count - 1);
    }

    private boolean isSuit(int i) {
        return within(i, 0, suits.count - 1);
    }

    private boolean isPiece(int i) {
        return within(i, 0, pieces.count - 1);
    }

    /** PERSONS with their ESTATES, LIVINGS with their places and WORTHS. */
    private static final class Register {
        static final int MOST_PERSONS = 40, MOST_LIVINGS = 12, MOST_ESTATE = 9999, MOST_WORTH = 999, FARTHEST = 50;

        final int[] estate = new int[MOST_PERSONS];
        final int[] x = new int[MOST_LIVINGS];
        final int[] y = new int[MOST_LIVINGS];
        final int[] worth = new int[MOST_LIVINGS];
        int persons;
        int livings;

        int addPerson(int itsEstate) {
            if (persons >= MOST_PERSONS) {
                return FULL;
            }
            estate[persons] = itsEstate;
            return persons++;
        }

        int addLiving(int itsX, int itsY, int itsWorth) {
            if (livings >= MOST_LIVINGS) {
                return FULL;
            }
            x[livings] = itsX;
            y[livings] = itsY;
            worth[livings] = itsWorth;
            return livings++;
        }

        int milesBetween(int a, int b) {
            return Math.abs(x[a] - x[b]) + Math.abs(y[a] - y[b]);
        }

        int milesFromSee(int a) {
            return Math.abs(x[a]) + Math.abs(y[a]);
        }
    }

    /** All PAPERS, and THE BOOK of one DAY with what is looked up in it. */
    private static final class Papers {
        static final int BORN = 0, DIED = 1, PRIESTED = 2, IN = 3, OUT = 4, LEAVE = 5, HEIR = 6, SHARED = 7,
            ALONE = 8, NEXT = 9, NOTICE = 10, SURVEY = 11, VOID = 12;
        static final int MOST = 150, MOST_SURVEY = 9999;
        private static final int WITH_LIVING = 1 << IN | 1 << OUT | 1 << SHARED | 1 << ALONE | 1 << NEXT
            | 1 << NOTICE | 1 << SURVEY;
        private static final int WITH_OTHER = 1 << IN | 1 << HEIR | 1 << SHARED | 1 << NEXT;

        final int[] kind = new int[MOST];
        final int[] day = new int[MOST];
        final int[] toldOn = new int[MOST];
        final int[] living = new int[MOST];
        final int[] person = new int[MOST];
        final int[] other = new int[MOST];
        final int[] value = new int[MOST];
        int count;
        /** All PAPERS by DAYS, then numbers: THE BOOK of any DAY is a part of this row. */
        private final int[] byDay = new int[MOST];
        private int openFor = NONE;
        final boolean[] isVoid = new boolean[MOST];
        /** THE BOOK that is open: numbers of PAPERS. */
        final int[] leaf = new int[MOST];
        int size;
        /** The DAY of the first PAPER of a KIND (up to LEAVE) of a PERSON. */
        final int[][] first = new int[LEAVE + 1][Register.MOST_PERSONS];

        static boolean hasLiving(int kind) {
            return within(kind, 0, VOID) && (WITH_LIVING >> kind & 1) == 1;
        }

        static boolean hasPerson(int kind) {
            return within(kind, BORN, NEXT);
        }

        static boolean hasOther(int kind) {
            return within(kind, 0, VOID) && (WITH_OTHER >> kind & 1) == 1;
        }

        /** The caller has looked at the numbers, and that there is room. */
        int add(int itsKind, int itsDay, int today, int l, int p, int q, int v) {
            int n = count;
            kind[n] = itsKind;
            day[n] = itsDay;
            toldOn[n] = today;
            living[n] = hasLiving(itsKind) ? l : NONE;
            person[n] = hasPerson(itsKind) ? p : NONE;
            other[n] = hasOther(itsKind) ? q : NONE;
            value[n] = itsKind == SURVEY || itsKind == VOID ? v : NONE;
            int place = n;
            while (place > 0 && day[byDay[place - 1]] > itsDay) {
                byDay[place] = byDay[place - 1];
                place--;
            }
            byDay[place] = n;
            count++;
            openFor = NONE;
            return n;
        }

        /** Opens THE BOOK of a DAY. */
        void open(int known) {
            if (openFor == known) {
                return;
            }
            openFor = known;
            markVoid(known);
            for (int k = BORN; k <= LEAVE; k++) {
                for (int p = 0; p < Register.MOST_PERSONS; p++) {
                    first[k][p] = NONE;
                }
            }
            size = 0;
            for (int i = 0; i < count; i++) {
                int n = byDay[i];
                if (isInBook(n)) {
                    leaf[size] = n;
                    size++;
                    if (kind[n] <= LEAVE && first[kind[n]][person[n]] == NONE) {
                        first[kind[n]][person[n]] = day[n];
                    }
                }
            }
        }

        /** A VOID tells of an earlier PAPER alone, so that from the last one down each is judged before it judges. */
        private void markVoid(int known) {
            for (int n = 0; n < count; n++) {
                isVoid[n] = false;
            }
            for (int n = count - 1; n >= 0; n--) {
                if (kind[n] == VOID && toldOn[n] <= known && !isVoid[n]) {
                    isVoid[value[n]] = true;
                }
            }
        }

        /** Whether THE BOOK has a PAPER of a KIND (up to LEAVE) of a PERSON, done by a DAY. */
        boolean hadBy(int itsKind, int p, int until) {
            int on = first[itsKind][p];
            return on != NONE && on <= until;
        }

        boolean isInBook(int n) {
            return toldOn[n] <= openFor && !isVoid[n];
        }

        int heirBy(int p, int until) {
            for (int i = size - 1; i >= 0; i--) {
                int n = leaf[i];
                if (kind[n] == HEIR && person[n] == p && day[n] <= until) {
                    return other[n];
                }
            }
            return NONE;
        }

        int firstNotice(int l, int from) {
            for (int i = 0; i < size; i++) {
                int n = leaf[i];
                if (kind[n] == NOTICE && living[n] == l && day[n] >= from) {
                    return day[n];
                }
            }
            return NONE;
        }
    }

    /** CANONS as clauses, and what holds on one DAY by them. */
    private static final class Canons {
        static final int MOST = 10, MOST_CLAUSES = 12, MOST_CODES = 200;
        static final int LET = 0, BAR = 1, STRIKE = 2;
        static final int LAPSE = 0, MILES = 1, WORTH = 2, VOIDS = 3, LAPSED = 4, DECAY = 5, STEPS = 6, FEE = 7, NAMES = 8;
        static final int AGE = 0, ORDERS = 1, HOLDS = 2, FAR = 3, RICH = 4, HAS_LEAVE = 5, FACTS = 6;
        /** Codes of a test, one behind the other: a fact with its sign and NUMBER (0 and above), or one of these. */
        static final int AND = -1, OR = -2, INVERT = -3;
        static final int LESS = 0, MORE = 1, SIGNS = 3, NUMBERS = 10000;
        private static final int[] AT_FIRST = {6, 30, 100, 0, 0, 0, 0, 0};

        int count;
        final int[] clauses = new int[MOST];
        private final int[] from = new int[MOST];
        private final int[] byDay = new int[MOST];
        private final int[] kind = new int[MOST * MOST_CLAUSES];
        /** Of a let the name, of a strike the CANON, of a bar where its test begins. */
        private final int[] subject = new int[MOST * MOST_CLAUSES];
        /** Of a let the NUMBER, of a bar where its test ends and that behind unless begins. */
        private final int[] middle = new int[MOST * MOST_CLAUSES];
        private final int[] end = new int[MOST * MOST_CLAUSES];
        private final int[] code = new int[MOST * MOST_CODES];
        private int codes;
        private int settledFor = NONE;
        private int counting;
        final int[] number = new int[NAMES];
        final int[] ruler = new int[NAMES];

        /** Makes room for a CANON that is being read; it is none before enact. */
        void draft() {
            if (count < MOST) {
                clauses[count] = 0;
                codes = count * MOST_CODES;
            }
        }

        void addClause(int itsKind, int itsSubject, int itsMiddle, int itsEnd) {
            if (count < MOST && clauses[count] < MOST_CLAUSES) {
                int row = count * MOST_CLAUSES + clauses[count];
                kind[row] = itsKind;
                subject[row] = itsSubject;
                middle[row] = itsMiddle;
                end[row] = itsEnd;
                clauses[count]++;
            }
        }

        void addCode(int itsCode) {
            if (codes < (count + 1) * MOST_CODES && codes < code.length) {
                code[codes] = itsCode;
                codes++;
            }
        }

        int codePlace() {
            return codes;
        }

        /** The draft comes into force from a DAY on. The caller has looked that there is room. */
        int enact(int day) {
            int n = count;
            from[n] = day;
            int place = n;
            while (place > 0 && from[byDay[place - 1]] > day) {
                byDay[place] = byDay[place - 1];
                place--;
            }
            byDay[place] = n;
            count++;
            settledFor = NONE;
            return n;
        }

        boolean isCounting(int canon) {
            return (counting >> canon & 1) == 1;
        }

        int numberOn(int name, int day) {
            settle(day);
            return number[name];
        }

        /** Finds which CANONS count on a DAY, and what they let. */
        void settle(int day) {
            if (settledFor == day) {
                return;
            }
            settledFor = day;
            counting = 0;
            int struck = 0;
            for (int c = count - 1; c >= 0; c--) {
                if (from[c] <= day && (struck >> c & 1) == 0) {
                    counting |= 1 << c;
                    struck |= struckBy(c);
                }
            }
            for (int k = 0; k < NAMES; k++) {
                number[k] = AT_FIRST[k];
                ruler[k] = NONE;
            }
            for (int i = 0; i < count; i++) {
                if (isCounting(byDay[i])) {
                    letAll(byDay[i]);
                }
            }
        }

        private int struckBy(int c) {
            int struck = 0;
            for (int row = c * MOST_CLAUSES; row < c * MOST_CLAUSES + clauses[c]; row++) {
                if (kind[row] == STRIKE) {
                    struck |= 1 << subject[row];
                }
            }
            return struck;
        }

        private void letAll(int c) {
            for (int row = c * MOST_CLAUSES; row < c * MOST_CLAUSES + clauses[c]; row++) {
                if (kind[row] == LET) {
                    number[subject[row]] = middle[row];
                    ruler[subject[row]] = c;
                }
            }
        }

        /** The first bar of a DAY that is met by these facts: 100 times the CANON and the clause; NONE. */
        int firstBar(int day, int[] facts) {
            settle(day);
            for (int i = 0; i < count; i++) {
                int c = byDay[i];
                for (int k = 0; k < clauses[c] && isCounting(c); k++) {
                    int row = c * MOST_CLAUSES + k;
                    if (kind[row] == BAR && isMet(subject[row], middle[row], facts)
                        && !(end[row] > middle[row] && isMet(middle[row], end[row], facts))) {
                        return 100 * c + k;
                    }
                }
            }
            return NONE;
        }

        /** Works codes off on a stack of bits, its top at bit 0: eight brackets keep it far below 64. */
        private boolean isMet(int start, int stop, int[] facts) {
            long stack = 0;
            for (int i = start; i < stop; i++) {
                long top = stack & 1;
                switch (code[i]) {
                    case AND:
                        stack >>>= 1;
                        stack &= -2 | top;
                        break;
                    case OR:
                        stack >>>= 1;
                        stack |= top;
                        break;
                    case INVERT:
                        stack ^= 1;
                        break;
                    default:
                        stack = stack << 1 | oneIf(compares(code[i], facts));
                        break;
                }
            }
            return (stack & 1) == 1;
        }

        /** A fact that is NONE meets nothing. */
        private static boolean compares(int test, int[] facts) {
            int fact = facts[test / (SIGNS * NUMBERS)];
            int sign = test / NUMBERS % SIGNS;
            int bound = test % NUMBERS;
            if (fact == NONE) {
                return false;
            }
            if (sign == LESS) {
                return fact < bound;
            }
            return sign == MORE ? fact > bound : fact == bound;
        }
    }

    /** THE TEXT and its reading: the first FAULT met from left to right ends it. */
    private static final class Reader {
        static final int MOST = 200;
        private static final int CANNOT_STAND = 1, BAD_NUMBER = 2, NO_CANON = 3, CLAUSE_TOO_MANY = 4, TOO_DEEP = 5;
        private static final int MOST_OPEN = 8, MOST_FIGURES = 4, MOST_NUMBER = 9999;
        private static final int[] BOUNDS = {24, 99, 999, 1, 1, 2, 999, 999};

        private final Canons canons;
        private final char[] text = new char[MOST];
        int length;
        int faultAt = NONE;
        private int wrong;
        private int at;

        Reader(Canons canons) {
            this.canons = canons;
        }

        void append(int sign) {
            if (length < MOST) {
                text[length] = (char) sign;
                length++;
            }
        }

        /** Reads THE TEXT into the draft of a CANON and empties it: the number of its FAULT, 0 without one. */
        int readText() {
            at = 0;
            wrong = 0;
            faultAt = NONE;
            canons.draft();
            for (int k = 0; k <= Canons.MOST_CLAUSES && wrong == 0 && !isAtEnd(); k++) {
                int start = at;
                int kind = clauseWord();
                if (kind == NONE) {
                    fail(CANNOT_STAND, start);
                } else if (k >= Canons.MOST_CLAUSES) {
                    fail(CLAUSE_TOO_MANY, start);
                } else if (kind == Canons.LET) {
                    readLet();
                } else if (kind == Canons.BAR) {
                    readBar();
                } else {
                    readStrike();
                }
            }
            length = 0;
            return wrong;
        }

        private boolean isAtEnd() {
            skipBlanks();
            return at >= length;
        }

        private void fail(int number, int place) {
            if (wrong == 0) {
                wrong = number;
                faultAt = place;
            }
        }

        private void readLet() {
            int name = nameWord();
            if (name == NONE) {
                fail(CANNOT_STAND, at);
                return;
            }
            int value = readNumber(BOUNDS[name]);
            expect(';');
            canons.addClause(Canons.LET, name, value, 0);
        }

        private void readStrike() {
            skipBlanks();
            int start = at;
            int struck = readNumber(MOST_NUMBER);
            if (struck >= canons.count) {
                fail(NO_CANON, start);
            }
            expect(';');
            canons.addClause(Canons.STRIKE, struck, 0, 0);
        }

        private void readBar() {
            int start = canons.codePlace();
            readTest(0);
            int middle = canons.codePlace();
            if (takeWord("unless")) {
                readTest(0);
            }
            expect(';');
            canons.addClause(Canons.BAR, start, middle, canons.codePlace());
        }

        /**
         * Reads a test within so many open brackets and writes its codes, each sign behind what it joins. 'not's ahead
         * of one are counted, not descended into: THE TEXT has room for more of them than for brackets.
         */
        private void readTest(int open) {
            boolean joinsAnd = false;
            boolean joinsOr = false;
            boolean goesOn = true;
            for (int k = 0; k < MOST && wrong == 0 && goesOn; k++) {
                int nots = 0;
                while (nots < MOST && takeWord("not")) {
                    nots++;
                }
                if (!takeSign('(')) {
                    readComparison();
                } else if (open >= MOST_OPEN) {
                    fail(TOO_DEEP, at - 1);
                } else {
                    readTest(open + 1);
                    expect(')');
                }
                if (nots % 2 == 1) {
                    canons.addCode(Canons.INVERT);
                }
                if (joinsAnd) {
                    canons.addCode(Canons.AND);
                }
                joinsAnd = takeWord("and");
                if (!joinsAnd) {
                    if (joinsOr) {
                        canons.addCode(Canons.OR);
                    }
                    joinsOr = takeWord("or");
                    goesOn = joinsOr;
                }
            }
        }

        private void readComparison() {
            int fact = factWord();
            if (fact == NONE) {
                fail(CANNOT_STAND, at);
                return;
            }
            int sign = compareSign();
            if (sign == NONE) {
                fail(CANNOT_STAND, at);
                return;
            }
            int bound = readNumber(MOST_NUMBER);
            canons.addCode((fact * Canons.SIGNS + sign) * Canons.NUMBERS + bound);
        }

        /** A NUMBER up to a bound; where there is a FAULT, some number within 0 .. 9999. */
        private int readNumber(int most) {
            skipBlanks();
            int start = at;
            int value = 0;
            while (at < length && text[at] >= '0' && text[at] <= '9') {
                if (at - start < MOST_FIGURES) {
                    value = 10 * value + text[at] - '0';
                }
                at++;
            }
            if (at == start) {
                fail(CANNOT_STAND, start);
            } else if (at - start > MOST_FIGURES || value > most) {
                fail(BAD_NUMBER, start);
            }
            return value;
        }

        private void expect(char sign) {
            if (!takeSign(sign)) {
                fail(CANNOT_STAND, at);
            }
        }

        private boolean takeSign(char sign) {
            skipBlanks();
            if (at < length && text[at] == sign) {
                at++;
                return true;
            }
            return false;
        }

        /** Goes behind the next word if it is this one, else to its first letter. */
        private boolean takeWord(String word) {
            skipBlanks();
            int stop = at;
            while (stop < length && text[stop] >= 'a' && text[stop] <= 'z') {
                stop++;
            }
            if (stop - at != word.length()) {
                return false;
            }
            for (int k = 0; k < word.length(); k++) {
                if (text[at + k] != word.charAt(k)) {
                    return false;
                }
            }
            at = stop;
            return true;
        }

        private void skipBlanks() {
            while (at < length && text[at] == ' ') {
                at++;
            }
        }

        private int clauseWord() {
            if (takeWord("let")) {
                return Canons.LET;
            }
            if (takeWord("bar")) {
                return Canons.BAR;
            }
            return takeWord("strike") ? Canons.STRIKE : NONE;
        }

        private int nameWord() {
            if (takeWord("lapse")) {
                return Canons.LAPSE;
            }
            if (takeWord("miles")) {
                return Canons.MILES;
            }
            if (takeWord("worth")) {
                return Canons.WORTH;
            }
            if (takeWord("void")) {
                return Canons.VOIDS;
            }
            if (takeWord("lapsed")) {
                return Canons.LAPSED;
            }
            if (takeWord("decay")) {
                return Canons.DECAY;
            }
            if (takeWord("steps")) {
                return Canons.STEPS;
            }
            return takeWord("fee") ? Canons.FEE : NONE;
        }

        private int factWord() {
            if (takeWord("age")) {
                return Canons.AGE;
            }
            if (takeWord("orders")) {
                return Canons.ORDERS;
            }
            if (takeWord("holds")) {
                return Canons.HOLDS;
            }
            if (takeWord("far")) {
                return Canons.FAR;
            }
            if (takeWord("rich")) {
                return Canons.RICH;
            }
            return takeWord("leave") ? Canons.HAS_LEAVE : NONE;
        }

        private int compareSign() {
            if (takeSign('<')) {
                return Canons.LESS;
            }
            if (takeSign('>')) {
                return Canons.MORE;
            }
            return takeSign('=') ? Canons.SIGNS - 1 : NONE;
        }
    }

    /** The RIGHTS of all LIVINGS, whose TURN it is, and the turns that are SOLD. */
    private static final class Rights {
        private final Papers papers;
        /** The row of a RIGHT: two PERSONS, the second NONE if it is one's alone, both NONE without a RIGHT. */
        private final int[] patron = new int[Register.MOST_LIVINGS];
        private final int[] partner = new int[Register.MOST_LIVINGS];
        private final boolean[] partnerNext = new boolean[Register.MOST_LIVINGS];
        private final int[] sold = new int[Papers.MOST];
        private int soldCount;
        private final boolean[] isUsed = new boolean[Papers.MOST];

        Rights(Papers papers) {
            this.papers = papers;
        }

        void clearAll() {
            for (int l = 0; l < Register.MOST_LIVINGS; l++) {
                grant(l, NONE, NONE);
            }
            soldCount = 0;
        }

        void grant(int l, int p, int q) {
            patron[l] = p;
            partner[l] = q;
            partnerNext[l] = false;
        }

        void sell(int paper) {
            if (soldCount < Papers.MOST) {
                sold[soldCount] = paper;
                isUsed[soldCount] = false;
                soldCount++;
            }
        }

        int turnOf(int l) {
            return partnerNext[l] ? partner[l] : patron[l];
        }

        int soldLeft(int l) {
            int left = 0;
            for (int i = 0; i < soldCount; i++) {
                if (papers.living[sold[i]] == l && !isUsed[i]) {
                    left++;
                }
            }
            return left;
        }

        /** The row of the first turn of a PERSON in a LIVING that is SOLD and not used; NONE. */
        private int firstSold(int l, int p) {
            for (int i = 0; i < soldCount; i++) {
                if (papers.living[sold[i]] == l && papers.person[sold[i]] == p && !isUsed[i]) {
                    return i;
                }
            }
            return NONE;
        }

        /** THE PATRON on a DAY. */
        int patronOn(int l, int day) {
            int p = turnOf(l);
            if (p == NONE) {
                return CROWN;
            }
            int row = firstSold(l, p);
            return livingHeir(row == NONE ? p : papers.other[sold[row]], day);
        }

        private int livingHeir(int p, int day) {
            int heir = p;
            for (int k = 0; k < 12 && papers.hadBy(Papers.DIED, heir, day); k++) {
                heir = papers.heirBy(heir, day);
                if (heir == NONE) {
                    return CROWN;
                }
            }
            return papers.hadBy(Papers.DIED, heir, day) ? CROWN : heir;
        }

        void useTurn(int l) {
            int p = turnOf(l);
            if (p == NONE) {
                return;
            }
            int row = firstSold(l, p);
            if (row != NONE) {
                isUsed[row] = true;
            }
            if (partner[l] != NONE) {
                partnerNext[l] = !partnerNext[l];
            }
        }
    }

    /** The changes of HOLDERS in a story, as they came. */
    private static final class Changes {
        static final int EMPTY = 0, CLAIMED = 2;
        /** A PAPER makes one HOLDER at most, and each can fall but once. */
        private static final int MOST = 2 * Papers.MOST;

        final int[] day = new int[MOST];
        final int[] paper = new int[MOST];
        /** How many HOLDERS there were then. */
        final int[] left = new int[MOST];
        private final int[] living = new int[MOST];
        private final int[] person = new int[MOST];
        private final boolean[] isFall = new boolean[MOST];
        private int size;

        static int stateOf(int holderCount) {
            return Math.min(holderCount, CLAIMED);
        }

        void clearAll() {
            size = 0;
        }

        void note(int l, int p, boolean fall, int itsDay, int itsPaper, int itsLeft) {
            if (size < MOST) {
                living[size] = l;
                person[size] = p;
                isFall[size] = fall;
                day[size] = itsDay;
                paper[size] = itsPaper;
                left[size] = itsLeft;
                size++;
            }
        }

        /** The row of the i-th change of a LIVING; NONE. */
        int rowOf(int l, int i) {
            int seen = 0;
            for (int row = 0; row < size; row++) {
                if (living[row] == l) {
                    if (seen == i) {
                        return row;
                    }
                    seen++;
                }
            }
            return NONE;
        }

        int lastFall(int p, int l) {
            for (int row = size - 1; row >= 0; row--) {
                if (living[row] == l && person[row] == p && isFall[row]) {
                    return day[row];
                }
            }
            return NONE;
        }

        int daysOf(int l, int a, int b, int state) {
            int total = 0;
            int since = 0;
            int now = EMPTY;
            for (int row = 0; row < size; row++) {
                if (living[row] == l) {
                    total += now == state ? common(since, day[row] - 1, a, b) : 0;
                    since = day[row];
                    now = stateOf(left[row]);
                }
            }
            return total + (now == state ? common(since, LAST_DAY, a, b) : 0);
        }

        private static int common(int from, int to, int a, int b) {
            return Math.max(0, Math.min(to, b) - Math.max(from, a) + 1);
        }
    }

    /** THE STORY by THE BOOK of a DAY up to a DAY. */
    private static final class Story {
        static final int NOT_EMPTY = 1, HAD_DIED = 2, WAS_BARRED = 4, NOT_HIS = 8;
        private static final int BY_DEATH = 1, BY_OUT = 2, BY_ANOTHER = 3;
        private static final int MONTH = 30, YEAR = 360, SURVEY_DAYS = 90;

        private final Register register;
        private final Papers papers;
        private final Canons canons;
        final Rights rights;
        final Changes changes;
        /** SETS of PERSONS. */
        final long[] holders = new long[Register.MOST_LIVINGS];
        /** At which leaf of THE BOOK a PERSON became HOLDER. */
        private final int[][] since = new int[Register.MOST_LIVINGS][Register.MOST_PERSONS];
        final int[] emptyFrom = new int[Register.MOST_LIVINGS];
        final int[] emptyBy = new int[Register.MOST_LIVINGS];
        /** Why an IN is not GOOD, by PAPERS. */
        final int[] reasons = new int[Papers.MOST];
        private final int[] facts = new int[Canons.FACTS];
        private int toldFor = NONE;
        private int toldUntil = NONE;

        Story(Register register, Papers papers, Canons canons) {
            this.register = register;
            this.papers = papers;
            this.canons = canons;
            rights = new Rights(papers);
            changes = new Changes();
        }

        /** Whoever changes what a story is told from says so. */
        void forget() {
            toldFor = NONE;
        }

        /** Opens THE BOOK of a DAY and tells the story by it up to a DAY. */
        void tell(int known, int until) {
            papers.open(known);
            if (toldFor == known && toldUntil == until) {
                return;
            }
            toldFor = known;
            toldUntil = until;
            clearAll();
            for (int i = 0; i < papers.size && papers.day[papers.leaf[i]] <= until; i++) {
                int n = papers.leaf[i];
                int l = papers.living[n];
                int p = papers.person[n];
                switch (papers.kind[n]) {
                    case Papers.DIED:
                        fallFromAllBut(NONE, NONE, n, BY_DEATH);
                        break;
                    case Papers.IN:
                        takeIn(n, i);
                        break;
                    case Papers.OUT:
                        fall(l, n, BY_OUT);
                        break;
                    case Papers.SHARED:
                        rights.grant(l, p, papers.other[n]);
                        break;
                    case Papers.ALONE:
                        rights.grant(l, p, NONE);
                        break;
                    case Papers.NEXT:
                        rights.sell(n);
                        break;
                    default:
                        break;
                }
            }
        }

        private void clearAll() {
            for (int l = 0; l < Register.MOST_LIVINGS; l++) {
                holders[l] = 0;
                emptyFrom[l] = 0;
                emptyBy[l] = 0;
            }
            rights.clearAll();
            changes.clearAll();
        }

        private void takeIn(int n, int place) {
            int l = papers.living[n];
            int p = papers.person[n];
            int q = papers.other[n];
            int day = papers.day[n];
            int why = (holders[l] != 0 ? NOT_EMPTY : 0)
                | (papers.hadBy(Papers.DIED, p, day) ? HAD_DIED : 0)
                | (barOf(p, l, day) != NONE ? WAS_BARRED : 0)
                | (presenter(l, day) != q ? NOT_HIS : 0);
            reasons[n] = why;
            boolean counts = why == 0 || canons.numberOn(Canons.VOIDS, day) == 1;
            boolean countsLapsed = why == 0 && lapsedTo(l, day) != 0 && canons.numberOn(Canons.LAPSED, day) == 1;
            if (counts && rights.patronOn(l, day) == q || countsLapsed) {
                rights.useTurn(l);
            }
            if (!isHolder(l, p)) {
                holders[l] |= 1L << p;
                since[l][p] = place;
                emptyFrom[l] = NONE;
                emptyBy[l] = NONE;
                changes.note(l, p, false, day, n, holderCount(l));
            }
            fallFromAllBut(l, otherToKeep(l, p, day), n, BY_ANOTHER);
        }

        /** The one other LIVING that a PERSON holds on to; NONE. */
        private int otherToKeep(int l, int p, int day) {
            int last = NONE;
            for (int k = 0; k < register.livings; k++) {
                if (k != l && isHolder(k, p) && (last == NONE || since[k][p] > since[last][p])) {
                    last = k;
                }
            }
            return last != NONE && mayHoldBoth(l, last, p, day) ? last : NONE;
        }

        private boolean mayHoldBoth(int a, int b, int p, int day) {
            int worth = canons.numberOn(Canons.WORTH, day);
            return papers.hadBy(Papers.LEAVE, p, day)
                && register.milesBetween(a, b) <= canons.numberOn(Canons.MILES, day)
                && register.worth[a] <= worth && register.worth[b] <= worth;
        }

        /** The PERSON of a PAPER falls from all LIVINGS but these. */
        private void fallFromAllBut(int a, int b, int n, int cause) {
            for (int k = 0; k < register.livings; k++) {
                if (k != a && k != b) {
                    fall(k, n, cause);
                }
            }
        }

        private void fall(int l, int n, int cause) {
            int p = papers.person[n];
            if (!isHolder(l, p)) {
                return;
            }
            holders[l] &= ~(1L << p);
            if (holders[l] == 0) {
                emptyFrom[l] = papers.day[n];
                emptyBy[l] = cause;
            }
            changes.note(l, p, true, papers.day[n], n, holderCount(l));
        }

        boolean isHolder(int l, int p) {
            return (holders[l] >> p & 1) == 1;
        }

        int holderCount(int l) {
            return Long.bitCount(holders[l]);
        }

        int livingsThatAre(int state) {
            int found = 0;
            for (int l = 0; l < register.livings; l++) {
                found += oneIf(Changes.stateOf(holderCount(l)) == state);
            }
            return found;
        }

        int firstHolder(int l) {
            int found = NONE;
            for (int p = 0; p < register.persons; p++) {
                if (isHolder(l, p) && (found == NONE || since[l][p] < since[l][found])) {
                    found = p;
                }
            }
            return found;
        }

        /** WHO may present on a DAY. */
        int presenter(int l, int day) {
            if (holders[l] != 0) {
                return NONE;
            }
            switch (lapsedTo(l, day)) {
                case 0: return rights.patronOn(l, day);
                case 1: return BISHOP;
                case 2: return PRIMATE;
                default: return CROWN;
            }
        }

        /** How often the time of lapse went by on an EMPTY LIVING, 3 at most: 0 it has not lapsed. */
        private int lapsedTo(int l, int day) {
            int term = MONTH * canons.numberOn(Canons.LAPSE, emptyFrom[l]);
            int start = emptyBy[l] == BY_OUT ? papers.firstNotice(l, emptyFrom[l]) : emptyFrom[l];
            if (term <= 0 || start == NONE || day < start) {
                return 0;
            }
            return Math.min((day - start) / term, 3);
        }

        /** The first bar that a PERSON meets in a LIVING on a DAY, by the HOLDERS that are; NONE. */
        int barOf(int p, int l, int day) {
            int born = papers.first[Papers.BORN][p];
            int priested = papers.first[Papers.PRIESTED][p];
            facts[Canons.AGE] = papers.hadBy(Papers.BORN, p, day) ? (day - born) / YEAR : NONE;
            facts[Canons.ORDERS] = papers.hadBy(Papers.PRIESTED, p, day) ? day - priested : NONE;
            facts[Canons.HOLDS] = 0;
            facts[Canons.FAR] = 0;
            for (int k = 0; k < register.livings; k++) {
                if (k != l && isHolder(k, p)) {
                    facts[Canons.HOLDS]++;
                    facts[Canons.FAR] = Math.max(facts[Canons.FAR], register.milesBetween(k, l));
                }
            }
            facts[Canons.RICH] = register.worth[l];
            facts[Canons.HAS_LEAVE] = oneIf(papers.hadBy(Papers.LEAVE, p, day));
            return canons.firstBar(day, facts);
        }

        /** DECAY of a LIVING at the end of a PERSON's time in it. */
        int decayOf(int p, int l) {
            int end = changes.lastFall(p, l);
            if (end == NONE) {
                return 0;
            }
            int one = NONE;
            for (int i = 0; i < papers.size; i++) {
                int n = papers.leaf[i];
                if (papers.kind[n] == Papers.SURVEY && papers.living[n] == l
                    && within(papers.day[n], end, end + SURVEY_DAYS)) {
                    if (one != NONE) {
                        return ofBoth(one, papers.value[n], canons.numberOn(Canons.DECAY, end));
                    }
                    one = papers.value[n];
                }
            }
            return Math.max(one, 0);
        }

        private static int ofBoth(int a, int b, int rule) {
            switch (rule) {
                case 0: return Math.min(a, b);
                case 1: return Math.max(a, b);
                default: return (a + b) / 2;
            }
        }
    }

    /** SUITS by their STEPS; whom and for what they present nobody asks. */
    private static final class Suits {
        static final int MOST = 20, MOST_STEPS = 5;

        private final Canons canons;
        private final int[] presentedOn = new int[MOST];
        private final int[] steps = new int[MOST];
        private final int[][] stepDay = new int[MOST][MOST_STEPS];
        int count;

        Suits(Canons canons) {
            this.canons = canons;
        }

        int add(int day) {
            if (count >= MOST) {
                return FULL;
            }
            presentedOn[count] = day;
            steps[count] = 0;
            return count++;
        }

        int addStep(int s, int day) {
            if (steps[s] >= MOST_STEPS) {
                return NOT;
            }
            stepDay[s][steps[s]] = day;
            steps[s]++;
            return steps[s];
        }

        int undoFrom(int s, int k) {
            if (k > steps[s]) {
                return NOT;
            }
            steps[s] = k - 1;
            return steps[s];
        }

        int stepsBy(int s, int day) {
            int done = 0;
            while (done < steps[s] && stepDay[s][done] <= day) {
                done++;
            }
            return done;
        }

        /** The DAY of the last STEP by a DAY, or of being presented; NONE. */
        int lastDay(int s, int day) {
            int done = stepsBy(s, day);
            if (done > 0) {
                return stepDay[s][done - 1];
            }
            return presentedOn[s] <= day ? presentedOn[s] : NONE;
        }

        boolean sleeps(int s, int day) {
            int last = lastDay(s, day);
            int patience = canons.numberOn(Canons.STEPS, day);
            return last != NONE && patience > 0 && stepsBy(s, day) < MOST_STEPS && day - last > patience;
        }

        int fees(int s) {
            int sum = 0;
            for (int k = 0; k < steps[s]; k++) {
                sum += canons.numberOn(Canons.FEE, stepDay[s][k]);
            }
            return sum;
        }
    }

    /** TERRIERS, two rows of fields for each LIVING (OLD, NEW), and THE MATCH of one LIVING. */
    private static final class Terriers {
        static final int MOST = 8, MOST_ACRES = 999;
        private static final int SETS = 1 << MOST;

        private final int[] size = new int[2 * Register.MOST_LIVINGS];
        private final int[][] name = new int[2 * Register.MOST_LIVINGS][MOST];
        private final int[][] acres = new int[2 * Register.MOST_LIVINGS][MOST];
        private final int[][] neighbour = new int[2 * Register.MOST_LIVINGS][MOST];
        /** The least cost from an OLD field on, with a SET of NEW ones matched ahead of it. */
        private final int[][] cost = new int[MOST + 1][SETS];
        private final int[] partners = new int[MOST];
        private int pairedFor = NONE;

        int add(int row, int itsName, int itsAcres, int itsNeighbour) {
            int n = size[row];
            if (n >= MOST) {
                return FULL;
            }
            name[row][n] = itsName;
            acres[row][n] = itsAcres;
            neighbour[row][n] = itsNeighbour;
            size[row]++;
            pairedFor = NONE;
            return n;
        }

        int leastCost() {
            return cost[0][0];
        }

        int partner(int l, int i) {
            return within(i, 0, size[2 * l] - 1) ? partners[i] : NONE;
        }

        /** Finds THE MATCH of a LIVING. */
        void pair(int l) {
            if (pairedFor == l) {
                return;
            }
            pairedFor = l;
            int olds = size[2 * l];
            int sets = 1 << size[2 * l + 1];
            for (int used = 0; used < sets; used++) {
                cost[olds][used] = aloneBehind(2 * l + 1, used);
            }
            for (int i = olds - 1; i >= 0; i--) {
                for (int used = 0; used < sets; used++) {
                    if (Integer.bitCount(used) <= i) {
                        cost[i][used] = leastFrom(l, i, used);
                    }
                }
            }
            int used = 0;
            for (int i = 0; i < olds; i++) {
                partners[i] = firstPartner(l, i, used);
                used |= partners[i] == NONE ? 0 : 1 << partners[i];
            }
        }

        private int leastFrom(int l, int i, int used) {
            int least = aloneCost(2 * l, i) + cost[i + 1][used];
            for (int j = 0; j < size[2 * l + 1]; j++) {
                if ((used >> j & 1) == 0) {
                    least = Math.min(least, pairCost(l, i, j) + cost[i + 1][used | 1 << j]);
                }
            }
            return least;
        }

        private int firstPartner(int l, int i, int used) {
            for (int j = 0; j < size[2 * l + 1]; j++) {
                if ((used >> j & 1) == 0 && pairCost(l, i, j) + cost[i + 1][used | 1 << j] == cost[i][used]) {
                    return j;
                }
            }
            return NONE;
        }

        private int pairCost(int l, int i, int j) {
            int old = 2 * l;
            int young = old + 1;
            return Math.abs(acres[old][i] - acres[young][j])
                + (name[old][i] == name[young][j] ? 0 : 7)
                + (neighbour[old][i] == neighbour[young][j] ? 0 : 3);
        }

        private int aloneCost(int row, int i) {
            return 10 + acres[row][i] / 10;
        }

        private int aloneBehind(int row, int used) {
            int sum = 0;
            for (int j = 0; j < size[row]; j++) {
                sum += (used >> j & 1) == 0 ? aloneCost(row, j) : 0;
            }
            return sum;
        }
    }

    /** PIECES of lives and their rows: as many PIECES as can be have one right behind them. */
    private static final class Lives {
        static final int MOST = 16;
        private static final int MILES_A_DAY = 20;

        private final int[] name = new int[MOST];
        private final int[] x = new int[MOST];
        private final int[] y = new int[MOST];
        private final int[] from = new int[MOST];
        private final int[] to = new int[MOST];
        int count;
        int rows;
        final int[] behind = new int[MOST];
        private boolean isJoined;
        /** SETS of PIECES that may come behind a PIECE. */
        private final int[] choice = new int[MOST];
        /** While links are counted: the PIECE ahead of one, NONE. */
        private final int[] ahead = new int[MOST];
        private int tried;

        int add(int itsName, int itsX, int itsY, int itsFrom, int itsTo) {
            if (count >= MOST) {
                return FULL;
            }
            name[count] = itsName;
            x[count] = itsX;
            y[count] = itsY;
            from[count] = itsFrom;
            to[count] = itsTo;
            isJoined = false;
            return count++;
        }

        private boolean isAhead(int a, int b) {
            if (from[a] == to[b] && to[a] == from[b]) {
                return a < b;
            }
            return to[a] <= from[b];
        }

        /** Whether b may come right behind a. */
        boolean joins(int a, int b) {
            int miles = Math.abs(x[a] - x[b]) + Math.abs(y[a] - y[b]);
            return name[a] == name[b] && isAhead(a, b)
                && from[b] - to[a] >= (miles + MILES_A_DAY - 1) / MILES_A_DAY;
        }

        /** Finds LIVES: link by link the least PIECE with which as many links as ever can still be made. */
        void join() {
            if (isJoined) {
                return;
            }
            isJoined = true;
            for (int a = 0; a < count; a++) {
                choice[a] = 0;
                for (int b = 0; b < count; b++) {
                    choice[a] |= joins(a, b) ? 1 << b : 0;
                }
            }
            int left = mostLinks(0, 0);
            rows = count - left;
            int taken = 0;
            for (int a = 0; a < count; a++) {
                behind[a] = leastBehind(a, taken, left);
                if (behind[a] != NONE) {
                    taken |= 1 << behind[a];
                    left--;
                }
            }
        }

        private int leastBehind(int a, int taken, int left) {
            for (int b = 0; b < count; b++) {
                if ((choice[a] & ~taken & 1 << b) != 0 && mostLinks(a + 1, taken | 1 << b) == left - 1) {
                    return b;
                }
            }
            return NONE;
        }

        /** How many PIECES from this one on can have one behind them, none of those taken. */
        private int mostLinks(int first, int taken) {
            for (int b = 0; b < count; b++) {
                ahead[b] = NONE;
            }
            int links = 0;
            for (int a = first; a < count; a++) {
                tried = taken;
                if (link(a, 0)) {
                    links++;
                }
            }
            return links;
        }

        /** Finds a place behind a, by moving others if need be; each level tries a PIECE more, so 16 are the most. */
        private boolean link(int a, int depth) {
            for (int b = 0; b < count && depth <= MOST; b++) {
                if ((choice[a] & ~tried & 1 << b) != 0) {
                    tried |= 1 << b;
                    if (ahead[b] == NONE || link(ahead[b], depth + 1)) {
                        ahead[b] = a;
                        return true;
                    }
                }
            }
            return false;
        }
    }

    /** THE PLAN of a VISITATION: within it LIVINGS go by their places in the SET. */
    private static final class Visitation {
        static final int MOST = 8, MOST_MILES = 999;
        private static final int SETS = 1 << MOST;
        /** A DAY weighs more than all MILES that a plan can have. */
        private static final int DAY = 10000;
        private static final int FAR = 1000000;

        private final Register register;
        private final int[] living = new int[MOST];
        private int size;
        /** The least MILES from THE SEE to a LIVING, through a SET that has it. */
        private final int[][] way = new int[MOST][SETS];
        /** The least MILES of a DAY that sees a SET. */
        private final int[] ride = new int[SETS];
        private final int[] weight = new int[SETS];
        private final int[] dayPart = new int[MOST];
        private int plannedSet;
        private int plannedMiles;
        int days;
        int miles;

        Visitation(Register register) {
            this.register = register;
        }

        /** Makes THE PLAN; false if some LIVING cannot be seen. */
        boolean prepare(int set, int most) {
            if (plannedSet != set) {
                plannedSet = set;
                plannedMiles = 0;
                size = 0;
                for (int l = 0; l < register.livings && size < MOST; l++) {
                    if ((set >> l & 1) == 1) {
                        living[size] = l;
                        size++;
                    }
                }
                measure();
            }
            for (int k = 0; k < size; k++) {
                if (ride[1 << k] > most) {
                    return false;
                }
            }
            if (plannedMiles != most) {
                plannedMiles = most;
                choose(most);
            }
            return true;
        }

        private void measure() {
            for (int part = 1; part < 1 << size; part++) {
                ride[part] = FAR;
                for (int k = 0; k < size; k++) {
                    if ((part >> k & 1) == 1) {
                        way[k][part] = wayTo(part ^ 1 << k, k);
                        ride[part] = Math.min(ride[part], way[k][part] + register.milesFromSee(living[k]));
                    }
                }
            }
        }

        private int wayTo(int ahead, int k) {
            if (ahead == 0) {
                return register.milesFromSee(living[k]);
            }
            int least = FAR;
            for (int j = 0; j < size; j++) {
                if ((ahead >> j & 1) == 1) {
                    least = Math.min(least, way[j][ahead] + register.milesBetween(living[j], living[k]));
                }
            }
            return least;
        }

        private void choose(int most) {
            int all = (1 << size) - 1;
            weight[0] = 0;
            for (int part = 1; part <= all; part++) {
                weight[part] = FAR;
                for (int t = part; t > 0; t = (t - 1) & part) {
                    if (ride[t] <= most) {
                        weight[part] = Math.min(weight[part], DAY + ride[t] + weight[part ^ t]);
                    }
                }
            }
            days = weight[all] / DAY;
            miles = weight[all] % DAY;
            int left = all;
            for (int d = 0; d < MOST; d++) {
                dayPart[d] = leastFirst(left, most);
                left ^= dayPart[d];
            }
        }

        /** The least SET that the first DAY of a best plan for this one can have. */
        private int leastFirst(int part, int most) {
            for (int t = 1; t <= part; t++) {
                if ((t & part) == t && ride[t] <= most && DAY + ride[t] + weight[part ^ t] == weight[part]) {
                    return t;
                }
            }
            return 0;
        }

        int setOf(int day) {
            int set = 0;
            for (int k = 0; k < size && day < MOST; k++) {
                set |= (dayPart[day] >> k & 1) << living[k];
            }
            return set;
        }
    }
}
