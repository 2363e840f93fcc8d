/** Long runs of calls, made by a fixed sequence of numbers, asked of the class and of Oracle. */
public final class OracleTest {
    private static final Check C = new Check();
    private static final int RUNS = Integer.getInteger("runs", 400);
    private static final int CALLS = 500;
    private static final String[] WORDS = {"let ", "bar ", "strike ", "unless ", "or ", "and ", "not ", "(", ")", ";",
        "<", ">", "=", "age", "orders", "holds", "far", "rich", "leave", "lapse", "miles", "worth", "void", "lapsed",
        "decay", "steps", "fee", "0", "1", "7", "30", "99", "1000", "10000", " ", "x", "#"};
    private static final String[] NAMES = {"lapse", "miles", "worth", "void", "lapsed", "decay", "steps", "fee"};
    private static final int[] MOST = {24, 99, 999, 1, 1, 2, 999, 999};
    private static final String[] FACTS = {"age", "orders", "holds", "far", "rich", "leave"};

    private final DioceseBook book = new DioceseBook();
    private final Oracle oracle = new Oracle();
    private final int run;
    private long seed;
    private final boolean wide;
    private final StringBuilder log = new StringBuilder();

    private OracleTest(int run) {
        this.run = run;
        seed = 7919L * run + 1;
        wide = run % 4 == 3;
    }

    public static void main(String[] args) {
        for (int run = 0; run < RUNS; run++) {
            new OracleTest(run).play();
        }
        C.end();
    }

    private int upTo(int n) {
        seed = seed * 6364136223846793005L + 1442695040888963407L;
        return (int) ((seed >>> 33) % n);
    }

    /** Mostly within the bounds, now and then just beyond. */
    private int number(int least, int most) {
        int r = upTo(60);
        if (r == 0) {
            return least - 1;
        }
        return r == 1 ? most + 1 : least + upTo(Math.max(1, most - least + 1));
    }

    private int day() {
        return upTo(12) == 0 ? number(0, 30000) : Math.max(0, book.count(0) - upTo(upTo(2) == 0 ? 40 : 1200));
    }

    private int past() {
        return Math.min(day(), book.count(0) + (upTo(40) == 0 ? 1 : 0));
    }

    private int person() {
        return number(0, book.count(1) - 1);
    }

    private int living() {
        return number(0, book.count(2) - 1);
    }

    private int paper() {
        return number(0, book.count(3) - 1);
    }

    private String test(int deep) {
        int r = upTo(deep > 3 ? 4 : 9);
        if (r < 4) {
            int fact = upTo(6);
            int[] about = {3, 700, 2, 60, 100, 2};
            return FACTS[fact] + "<>=".charAt(upTo(3)) + upTo(about[fact]) + " ";
        }
        if (r == 4) {
            return "not " + test(deep + 1);
        }
        return r == 5 ? "(" + test(deep + 1) + ")" : r == 6 ? test(deep + 1) + "and " + test(deep + 1)
            : test(deep + 1) + "or " + test(deep + 1);
    }

    private String clause() {
        int r = upTo(10);
        if (r < 6) {
            int name = upTo(8);
            int[] likely = {4, 60, 160, 2, 2, 3, 60, 9};
            return "let " + NAMES[name] + " " + number(0, upTo(3) == 0 ? MOST[name] : likely[name] - 1) + ";";
        }
        if (r == 6) {
            return "strike " + number(0, book.count(5) - 1) + ";";
        }
        return "bar " + test(upTo(3)) + (upTo(3) == 0 ? "unless " + test(2) : "") + ";";
    }

    private String text() {
        StringBuilder s = new StringBuilder();
        for (int k = upTo(16) == 0 ? 14 : 1 + upTo(4); k > 0; k--) {
            s.append(upTo(30) == 0 ? "  " : "").append(upTo(16) == 0 ? "let void 0;" : clause());
        }
        int r = upTo(5);
        for (int k = 0; k < r - 2; k++) {
            int at = upTo(s.length() + 1);
            int end = Math.min(s.length(), at + upTo(3));
            s.replace(at, end, WORDS[upTo(WORDS.length)]);
        }
        return s.toString();
    }

    private void same(String call, int got, int want) {
        log.append(call).append(" = ").append(want).append('\n');
        C.due("run " + run + ": " + call, got, want);
        if (got != want) {
            System.out.println(log);
            C.end();
        }
    }

    private void play() {
        for (int k = 0; k < 3 + upTo(wide ? 38 : 6); k++) {
            ask(1);
        }
        for (int k = 0; k < 2 + upTo(wide ? 11 : 4); k++) {
            ask(2);
        }
        while (log.length() >= 0 && calls < CALLS) {
            int r = upTo(100);
            if (r < 22) {
                ask(4);
            } else if (r < 28) {
                ask(0);
            } else if (r < 30) {
                ask(10);
            } else {
                ask(upTo(32));
            }
        }
    }

    private int calls;

    private void ask(int what) {
        calls++;
        if (what < 9) {
            askPapers(what);
        } else if (what < 20) {
            askStory(what);
        } else {
            askRest(what);
        }
    }

    private void askPapers(int what) {
        int a;
        int b;
        int c;
        switch (what) {
            case 0:
                a = upTo(30) == 0 ? number(0, 9999) : upTo(90);
                same("go " + a, book.go(a), oracle.go(a));
                break;
            case 1:
                a = number(0, upTo(2) == 0 ? 9999 : 60);
                same("person " + a, book.person(a), oracle.person(a));
                break;
            case 2:
                a = upTo(4) == 0 ? number(-50, 50) : upTo(31) - 15;
                b = upTo(4) == 0 ? number(-50, 50) : upTo(21) - 10;
                c = number(0, upTo(3) == 0 ? 999 : 130);
                same("living " + a + " " + b + " " + c, book.living(a, b, c), oracle.living(a, b, c));
                break;
            case 3:
                a = number(0, 1);
                b = a == 0 ? living() : person();
                c = number(0, a == 0 ? upTo(2) == 0 ? 999 : 150 : 99);
                same("set " + a + " " + b + " " + c, book.set(a, b, c), oracle.set(a, b, c));
                break;
            case 4:
                askPaper();
                break;
            case 5:
                a = paper();
                b = number(0, 7);
                same("told " + a + " " + b, book.told(a, b), oracle.told(a, b));
                break;
            case 6:
                a = past();
                b = number(-1, book.count(3));
                same("book " + a + " " + b, book.book(a, b), oracle.book(a, b));
                break;
            case 7:
                a = person();
                b = past();
                c = number(0, 4);
                same("about " + a + " " + b + " " + c, book.about(a, b, c), oracle.about(a, b, c));
                break;
            default:
                a = number(0, 10);
                same("count " + a, book.count(a), oracle.count(a));
                break;
        }
    }

    private void askPaper() {
        int[] kinds = {3, 3, 3, 3, 3, 3, 4, 4, 0, 1, 2, 5, 5, 6, 6, 7, 7, 8, 9, 9, 10, 11, 11, 12, 12};
        int kind = upTo(40) == 0 ? number(0, 12) : kinds[upTo(kinds.length)];
        int day = upTo(3) == 0 ? book.count(0) : past();
        int l = living();
        int p = person();
        int q = kind == 3 && upTo(2) == 0 ? -2 - upTo(3) : person();
        if (kind == 3 && upTo(4) != 0) {
            q = book.seat(l, Math.min(30000, Math.max(0, day)), book.count(0), 5);
        }
        int v = kind == 12 ? paper() : number(0, 9999);
        same("paper " + kind + " " + day + " " + l + " " + p + " " + q + " " + v, book.paper(kind, day, l, p, q, v),
            oracle.paper(kind, day, l, p, q, v));
        if (kind == 3) {
            same("why", book.why(book.count(3) - 1, book.count(0)), oracle.why(book.count(3) - 1, book.count(0)));
        }
    }

    private void askStory(int what) {
        int a;
        int b;
        int c;
        int d;
        switch (what) {
            case 9:
                a = number(1, 8);
                long bytes = 0x2020_2020_2020_2020L ^ upTo(3);
                same("feed " + a + " " + bytes, book.feed(a, bytes), oracle.feed(a, bytes));
                break;
            case 10:
                askCanon();
                break;
            case 11:
                a = number(0, 7);
                b = day();
                c = number(0, 1);
                same("force " + a + " " + b + " " + c, book.force(a, b, c), oracle.force(a, b, c));
                break;
            case 12:
                a = number(0, book.count(5) - 1);
                b = day();
                same("counts " + a + " " + b, book.counts(a, b), oracle.counts(a, b));
                break;
            case 13:
                a = person();
                b = living();
                c = day();
                d = past();
                same("barred " + a + " " + b + " " + c + " " + d, book.barred(a, b, c, d), oracle.barred(a, b, c, d));
                break;
            case 14:
            case 15:
                a = living();
                b = day();
                c = past();
                for (d = 0; d < 8; d++) {
                    same("seat " + a + " " + b + " " + c + " " + d, book.seat(a, b, c, d), oracle.seat(a, b, c, d));
                }
                calls += 7;
                break;
            case 16:
                a = paper();
                b = past();
                same("why " + a + " " + b, book.why(a, b), oracle.why(a, b));
                same("good " + a + " " + b, book.good(a, b), oracle.good(a, b));
                break;
            case 17:
                a = living();
                b = past();
                c = number(0, upTo(30));
                d = number(0, 2);
                same("change " + a + " " + b + " " + c + " " + d, book.change(a, b, c, d), oracle.change(a, b, c, d));
                break;
            case 18:
                a = living();
                b = Math.min(30000, day());
                c = b + number(0, upTo(4) == 0 ? 5000 : 300);
                d = past();
                for (int k = 0; k < 3; k++) {
                    same("days " + a + " " + b + " " + c + " " + d + " " + k, book.days(a, b, c, d, k),
                        oracle.days(a, b, c, d, k));
                }
                break;
            default:
                a = day();
                b = past();
                c = past();
                same("news " + a + " " + b + " " + c, book.news(a, b, c), oracle.news(a, b, c));
                break;
        }
    }

    private void askCanon() {
        String text = text();
        for (int i = 0; i < text.length(); i++) {
            long sign = text.charAt(i) | (long) upTo(1000) << 8;
            same("feed " + text, book.feed(1, sign), oracle.feed(1, sign));
        }
        int day = day();
        same("canon " + day + " " + text, book.canon(day), oracle.canon(day));
        same("fault", book.fault(), oracle.fault());
    }

    private void askRest(int what) {
        int a;
        int b;
        int c;
        int d;
        int e;
        switch (what) {
            case 20:
                a = person();
                b = living();
                c = past();
                same("present " + a + " " + b + " " + c, book.present(a, b, c), oracle.present(a, b, c));
                break;
            case 21:
            case 22:
                a = number(0, book.count(6) - 1);
                b = upTo(3) == 0 ? past() : book.count(0);
                same("step " + a + " " + b, book.step(a, b), oracle.step(a, b));
                break;
            case 23:
                a = number(0, book.count(6) - 1);
                b = number(1, 5);
                same("appeal " + a + " " + b, book.appeal(a, b), oracle.appeal(a, b));
                break;
            case 24:
                a = number(0, book.count(6) - 1);
                b = day();
                for (c = -1; c <= 4; c++) {
                    same("suit " + a + " " + b + " " + c, book.suit(a, b, c), oracle.suit(a, b, c));
                }
                break;
            case 25:
                a = person();
                b = living();
                c = past();
                for (d = 0; d <= 3; d++) {
                    same("decay " + a + " " + b + " " + c + " " + d, book.decay(a, b, c, d), oracle.decay(a, b, c, d));
                }
                break;
            case 26:
            case 27:
                a = living();
                b = number(0, 1);
                c = number(0, 3);
                d = number(1, upTo(3) == 0 ? 999 : 60);
                e = number(0, 3);
                if (book.count(2) > 0 && upTo(3) != 0) {
                    a = 0;
                }
                same("field " + a + " " + b + " " + c + " " + d + " " + e, book.field(a, b, c, d, e),
                    oracle.field(a, b, c, d, e));
                break;
            case 28:
                a = upTo(2) == 0 ? living() : 0;
                for (b = -1; b < 8; b++) {
                    same("match " + a + " " + b, book.match(a, b), oracle.match(a, b));
                }
                break;
            case 29:
                a = number(0, upTo(4) == 0 ? 99 : 1);
                b = upTo(30) - 15;
                c = number(-50, 50) / 5;
                d = number(0, 40);
                e = d + number(0, 10);
                if (book.count(7) < 9 || run % 8 == 0) {
                    same("piece " + a + " " + b + " " + c + " " + d + " " + e, book.piece(a, b, c, d, e),
                        oracle.piece(a, b, c, d, e));
                }
                a = number(0, book.count(7) - 1);
                b = number(0, book.count(7) - 1);
                same("one " + a + " " + b, book.one(a, b), oracle.one(a, b));
                break;
            case 30:
                if (book.count(7) < 10) {
                    for (a = -2; a <= book.count(7); a++) {
                        same("lives " + a, book.lives(a), oracle.lives(a));
                    }
                }
                break;
            default:
                askPlan();
                break;
        }
    }

    private void askPlan() {
        int set = 0;
        for (int k = 1 + upTo(5); k > 0; k--) {
            set |= 1 << upTo(Math.max(1, book.count(2)));
        }
        set = upTo(30) == 0 ? number(0, 4095) : set;
        if (Integer.bitCount(set) == 6 || Integer.bitCount(set) == 7 || Integer.bitCount(set) == 8) {
            return;
        }
        int miles = number(1, upTo(2) == 0 ? 120 : 400);
        for (int day = -2; day < 5; day++) {
            same("plan " + set + " " + miles + " " + day, book.plan(set, miles, day), oracle.plan(set, miles, day));
        }
    }
}
