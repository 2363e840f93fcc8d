import java.util.ArrayList;
import java.util.List;

/**
 * Of every call each number at both ends of its range and beyond them, alone and two at a time, in an object that has
 * room and in one that has none: what is due, and that an object that refused answers on like one that was never asked.
 */
public final class RefusalsTest {
    private static final Sentences S = new Sentences();
    private static final int UNKNOWN = Check.UNKNOWN, OUTSIDE = Check.OUTSIDE, NOT = Check.NOT, FULL = Check.FULL,
        NONE = Check.NONE;
    private static final int MIN = Integer.MIN_VALUE, MAX = Integer.MAX_VALUE;
    private static final String[] WORLD = {"2 x person 5", "2 x living 3 4 9", "go 7", "paper IN 5 0 1 CROWN 0",
        "paper SURVEY 6 1 0 0 8", "law 3 let fee 2;let lapse 1;", "text let", "present 1 1 4", "step 0 5",
        "field 1 0 1 2 3",
        "piece 1 2 3 4 5", "2 x piece 1 2 3 6 6"};

    private final String call;
    private final int[] numbers;
    private final List<int[]> bad = new ArrayList<>();
    private String[] more = {};
    private int refusal;

    private RefusalsTest(String call, int... numbers) {
        this.call = call;
        this.numbers = numbers;
    }

    public static void main(String[] args) {
        S.sentence("REFUSALS, of several the first in this order: UNKNOWN (a PERSON, LIVING, PAPER, CANON, SUIT, PIECE "
            + "that there is not), OUTSIDE (another number out of its bounds), NOT (not now, as told), FULL, LARGE "
            + "(as told). What is refused changes nothing.");
        registry();
        papers();
        lookedUp();
        canons();
        story();
        suits();
        land();
        S.end();
    }

    private static RefusalsTest of(String call, int... numbers) {
        return new RefusalsTest(call, numbers);
    }

    /** The k-th number: taken from least to most, refused so beyond. */
    private RefusalsTest number(int k, int least, int most, int otherwise) {
        for (int taken : new int[] {least, most}) {
            int[] row = numbers.clone();
            row[k] = taken;
            DioceseBook b = Sentences.book(WORLD);
            S.due(call(row) + " is taken", isRefusal(Sentences.answer(b, call(row))) ? 1 : 0, 0);
        }
        for (int beyond : new int[] {least - 1, most + 1, MIN, MAX}) {
            if (beyond < least || beyond > most) {
                bad.add(new int[] {k, beyond, otherwise});
            }
        }
        return this;
    }

    /** One number of a range refused so, where both ends of it are not. */
    private RefusalsTest but(int k, int value, int otherwise) {
        bad.add(new int[] {k, value, otherwise});
        return this;
    }

    /** After these calls more, it is refused so if all its numbers are right. */
    private RefusalsTest after(int itsRefusal, String... calls) {
        refusal = itsRefusal;
        more = calls;
        return this;
    }

    private void check() {
        asked(numbers, 0, false);
        if (refusal != 0) {
            asked(numbers, refusal, true);
        }
        for (int i = 0; i < bad.size(); i++) {
            int[] row = numbers.clone();
            row[bad.get(i)[0]] = bad.get(i)[1];
            askedTwice(row, bad.get(i)[2]);
            for (int k = 0; k < i; k++) {
                if (bad.get(k)[0] != bad.get(i)[0]) {
                    int[] both = row.clone();
                    both[bad.get(k)[0]] = bad.get(k)[1];
                    askedTwice(both, first(bad.get(i)[2], bad.get(k)[2]));
                }
            }
        }
    }

    private void askedTwice(int[] row, int due) {
        asked(row, due, false);
        if (refusal != 0) {
            asked(row, first(due, refusal), true);
        }
    }

    private void asked(int[] row, int due, boolean withMore) {
        DioceseBook b = world(withMore);
        int got = Sentences.answer(b, call(row));
        if (due == 0) {
            S.due(call(row) + " is taken", isRefusal(got) ? 1 : 0, 0);
            return;
        }
        S.due(call(row) + (withMore ? " with no room" : ""), got, due);
        S.due(call(row) + " changed something", answers(b).equals(answers(world(withMore))) ? 0 : 1, 0);
    }

    private DioceseBook world(boolean withMore) {
        DioceseBook b = Sentences.book(WORLD);
        for (String c : withMore ? more : new String[0]) {
            Sentences.answer(b, c);
        }
        return b;
    }

    private String call(int[] row) {
        StringBuilder line = new StringBuilder(call);
        for (int n : row) {
            line.append(' ').append(n);
        }
        return line.toString();
    }

    /** UNKNOWN, OUTSIDE, NOT, FULL, LARGE: the greater number is the first. */
    private static int first(int a, int b) {
        return Math.max(a, b);
    }

    private static boolean isRefusal(int answer) {
        return answer <= UNKNOWN && answer >= DioceseBook.LARGE;
    }

    /** What can be asked of an object that WORLD was told, and what it answers to calls that take a number more. */
    private static String answers(DioceseBook b) {
        StringBuilder line = new StringBuilder();
        for (int k = 0; k <= 10; k++) {
            add(line, b.count(k));
        }
        add(line, b.fault());
        int now = b.count(0);
        for (int k = 0; k < 8; k++) {
            add(line, b.seat(0, now, now, k), b.seat(1, now, now, k), b.force(k, 2, 0), b.force(k, 3, 0), b.force(k, 9,
                1));
            add(line, b.told(0, k), b.told(1, k), b.told(b.count(3) - 1, k), b.match(1, k), b.suit(0, now, k % 4));
        }
        for (int k = 0; k < 5; k++) {
            add(line, b.about(0, now, k), b.about(1, now, k), b.book(now, k), b.change(0, now, k, 2), b.suit(0, k + 3,
                k % 4));
        }
        add(line, b.match(1, NONE), b.lives(NONE), b.lives(0), b.plan(3, 20, NONE), b.good(0, now), b.counts(0, 5));
        return line + later(b);
    }

    private static String later(DioceseBook b) {
        StringBuilder line = new StringBuilder();
        add(line, b.set(0, 0, 0), b.set(0, 1, 0), b.set(1, 0, 0), b.set(1, 1, 0), b.person(0), b.living(0, 0, 0));
        add(line, b.paper(0, 0, 0, 0, 0, 0), b.present(0, 0, 0), b.field(0, 0, 0, 1, 0), b.field(1, 0, 0, 1, 0));
        add(line, b.field(1, 1, 0, 1, 0), b.piece(0, 0, 0, 0, 0), b.appeal(0, 5), b.appeal(0, 1), b.step(0, 4),
            b.count(6));
        add(line, b.canon(0), b.fault(), b.feed(1, ' '), b.canon(0), b.fault(), b.count(5), b.go(1), b.go(9999),
            b.go(9999));
        return line.toString();
    }

    private static void add(StringBuilder line, int... got) {
        for (int g : got) {
            line.append(' ').append(g);
        }
    }

    private static void registry() {
        of("go", 1).number(0, 0, 9999, OUTSIDE).after(NOT, "until 30000").check();
        of("person", 1).number(0, 0, 9999, OUTSIDE).after(FULL, "38 x person 0").check();
        of("living", 0, 0, 0).number(0, -50, 50, OUTSIDE).number(1, -50, 50, OUTSIDE).number(2, 0, 999, OUTSIDE)
            .after(FULL, "10 x living 0 0 0").check();
        of("set", 0, 1, 1).number(0, 0, 1, OUTSIDE).number(2, 0, 999, OUTSIDE).check();
        of("set", 0, 0, 1).number(1, 0, 1, UNKNOWN).number(2, 0, 999, OUTSIDE).check();
        of("set", 1, 0, 1).number(1, 0, 1, UNKNOWN).number(2, 0, 9999, OUTSIDE).check();
    }

    private static void papers() {
        String full = "148 x paper BORN 0 0 0 0 0";
        for (int kind : new int[] {Check.BORN, Check.DIED, Check.PRIESTED, Check.LEAVE}) {
            of("paper " + kind, 5, MIN, 1, MIN, MIN).number(0, 0, 7, OUTSIDE).number(2, 0, 1, UNKNOWN).after(FULL,
                full).check();
        }
        for (int kind : new int[] {Check.OUT, Check.ALONE}) {
            of("paper " + kind, 5, 1, 1, MIN, MIN).number(0, 0, 7, OUTSIDE).number(1, 0, 1, UNKNOWN).number(2, 0, 1,
                UNKNOWN)
                .after(FULL, full).check();
        }
        of("paper 9", 5, 1, 1, 0, MIN).number(0, 0, 7, OUTSIDE).number(1, 0, 1, UNKNOWN).number(2, 0, 1, UNKNOWN)
            .number(3, 0, 1, UNKNOWN).after(FULL, full).check();
        of("paper 3", 5, 1, 1, 0, MIN).number(0, 0, 7, OUTSIDE).number(1, 0, 1, UNKNOWN).number(2, 0, 1, UNKNOWN)
            .number(3, -4, -2, UNKNOWN).number(3, 0, 1, UNKNOWN).after(FULL, full).check();
        of("paper 6", 5, MIN, 1, 0, MIN).number(0, 0, 7, OUTSIDE).but(2, 2, UNKNOWN).but(2, -1, UNKNOWN).but(2, 0,
            OUTSIDE)
            .after(FULL, full).check();
        of("paper 7", 5, 1, 1, 0, MIN).number(0, 0, 7, OUTSIDE).number(1, 0, 1, UNKNOWN).but(3, 2, UNKNOWN).but(3, -2,
            UNKNOWN)
            .but(3, 1, OUTSIDE).after(FULL, full).check();
        of("paper 10", 5, 1, MIN, MIN, MIN).number(0, 0, 7, OUTSIDE).number(1, 0, 1, UNKNOWN).after(FULL, full).check();
        of("paper 11", 5, 1, MIN, MIN, 7).number(0, 0, 7, OUTSIDE).number(1, 0, 1, UNKNOWN).number(4, 0, 9999, OUTSIDE)
            .after(FULL, full).check();
        of("paper 12", 5, MIN, MIN, MIN, 1).number(0, 0, 7, OUTSIDE).number(4, 0, 1, UNKNOWN).check();
        of("paper 12", 5, MIN, MIN, MIN, 1).number(0, 0, 7, OUTSIDE).but(4, 150, UNKNOWN).but(4, -1, UNKNOWN).after(FULL,
            full)
            .check();
        of("paper", 0, 5, 1, 1, 0, 0).number(0, 0, 12, OUTSIDE).number(1, 0, 7, OUTSIDE).after(FULL, full).check();
    }

    private static void lookedUp() {
        of("told", 0, 0).number(0, 0, 1, UNKNOWN).number(1, 0, 7, OUTSIDE).check();
        of("book", 5, 0).number(0, 0, 7, OUTSIDE).check();
        of("about", 0, 5, 0).number(0, 0, 1, UNKNOWN).number(1, 0, 7, OUTSIDE).number(2, 0, 4, OUTSIDE).check();
        of("count", 0).number(0, 0, 10, OUTSIDE).check();
    }

    private static void canons() {
        of("feed", 1, 0).number(0, 1, 8, OUTSIDE).after(FULL, "24 x feed 8 0", "feed 5 0").check();
        of("canon", 1).number(0, 0, 30000, OUTSIDE).after(FULL, "canon 0", "9 x canon 0", "text let").check();
        of("force", 0, 0, 0).number(0, 0, 7, OUTSIDE).number(1, 0, 30000, OUTSIDE).number(2, 0, 1, OUTSIDE).check();
        of("counts", 0, 0).number(0, 0, 0, UNKNOWN).number(1, 0, 30000, OUTSIDE).check();
        of("barred", 0, 0, 0, 0).number(0, 0, 1, UNKNOWN).number(1, 0, 1, UNKNOWN).number(2, 0, 30000, OUTSIDE)
            .number(3, 0, 7, OUTSIDE).check();
    }

    private static void story() {
        of("seat", 0, 0, 0, 0).number(0, 0, 1, UNKNOWN).number(1, 0, 30000, OUTSIDE).number(2, 0, 7, OUTSIDE)
            .number(3, 0, 7, OUTSIDE).check();
        for (String ask : new String[] {"good", "why"}) {
            of(ask, 0, 7).but(0, -1, UNKNOWN).but(0, 2, UNKNOWN).but(0, 1, NOT).but(1, 0, NOT).but(1, 6, NOT).but(1, -1,
                OUTSIDE)
                .but(1, 8, OUTSIDE).but(1, MIN, OUTSIDE).but(1, MAX, OUTSIDE).check();
        }
        of("change", 0, 0, 0, 0).number(0, 0, 1, UNKNOWN).number(1, 0, 7, OUTSIDE).number(3, 0, 2, OUTSIDE).check();
        for (int a : new int[] {0, 25000}) {
            of("days", 0, a, a + 5000, 0, 0).number(1, a, a + 5000, OUTSIDE).number(0, 0, 1, UNKNOWN).number(3, 0, 7,
                OUTSIDE)
                .number(4, 0, 2, OUTSIDE).check();
            of("days", 0, a, a + 5000, 0, 0).number(2, a, a + 5000, OUTSIDE).number(0, 0, 1, UNKNOWN).check();
        }
        of("news", 0, 0, 0).number(0, 0, 30000, OUTSIDE).number(1, 0, 7, OUTSIDE).number(2, 0, 7, OUTSIDE).check();
    }

    private static void suits() {
        of("present", 0, 0, 0).number(0, 0, 1, UNKNOWN).number(1, 0, 1, UNKNOWN).number(2, 0, 7, OUTSIDE)
            .after(FULL, "19 x present 0 0 0").check();
        of("step", 0, 6).number(0, 0, 0, UNKNOWN).number(1, 5, 7, OUTSIDE).after(NOT, "4 x step 0 5").check();
        of("appeal", 0, 1).number(0, 0, 0, UNKNOWN).but(1, 2, NOT).but(1, 5, NOT).but(1, 0, OUTSIDE).but(1, 6, OUTSIDE)
            .but(1, MIN, OUTSIDE).but(1, MAX, OUTSIDE).after(NOT, "appeal 0 1").check();
        of("suit", 0, 0, 0).number(0, 0, 0, UNKNOWN).number(1, 0, 30000, OUTSIDE).number(2, 0, 3, OUTSIDE).check();
        of("decay", 0, 0, 0, 0).number(0, 0, 1, UNKNOWN).number(1, 0, 1, UNKNOWN).number(2, 0, 7, OUTSIDE).number(3, 0, 3,
            OUTSIDE)
            .check();
    }

    private static void land() {
        of("field", 1, 0, 0, 1, 0).number(0, 0, 1, UNKNOWN).number(1, 0, 1, OUTSIDE).number(2, 0, 99, OUTSIDE)
            .number(3, 1, 999, OUTSIDE).number(4, 0, 99, OUTSIDE).after(FULL, "7 x field 1 0 0 1 0").check();
        of("match", 1, 0).number(0, 0, 1, UNKNOWN).check();
        of("piece", 0, 0, 0, 5, 6).number(0, 0, 99, OUTSIDE).number(1, -50, 50, OUTSIDE).number(2, -50, 50, OUTSIDE)
            .number(3, 0, 6, OUTSIDE).number(4, 5, 30000, OUTSIDE).after(FULL, "13 x piece 0 0 0 0 0").check();
        of("one", 0, 0).number(0, 0, 2, UNKNOWN).number(1, 0, 2, UNKNOWN).check();
        of("lives", 0).number(0, -1, 2, UNKNOWN).check();
        of("plan", 3, 14, 0).but(0, 4, UNKNOWN).but(0, -1, UNKNOWN).but(0, MIN, UNKNOWN).but(0, 0, OUTSIDE).but(1, 0,
            OUTSIDE)
            .but(1, 1000, OUTSIDE).but(1, 13, NOT).but(1, 1, NOT).number(2, -2, MAX, OUTSIDE).check();
    }
}
