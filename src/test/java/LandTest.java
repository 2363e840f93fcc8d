/** Promises 28 to 33: TERRIERS, PIECES, VISITATIONS. */
public final class LandTest {
    private static final Check C = new Check();
    private static final int NONE = Check.NONE, IN_ALL = -2;

    public static void main(String[] args) {
        promise28();
        promise29Costs();
        promise29First();
        promise29Refusals();
        promise30();
        promise31();
        promise31SingleDays();
        promise32();
        promise32First();
        promise33Rides();
        promise33First();
        promise33Refusals();
        C.end();
    }

    private static void promise28() {
        DioceseBook b = Check.with(0, 2);
        C.row("refused", "-100001 -100001 -100002 -100002 -100002 -100002 -100002 -100002 -100002 -100002 -100001",
            b.field(2, 0, 0, 1, 0), b.field(-1, 0, 0, 1, 0), b.field(0, -1, 0, 1, 0), b.field(0, 2, 0, 1, 0),
            b.field(0, 0, -1, 1, 0), b.field(0, 0, 100, 1, 0), b.field(0, 0, 0, 0, 0), b.field(0, 0, 0, 1000, 0),
            b.field(0, 0, 0, 1, -1), b.field(0, 0, 0, 1, 100), b.field(2, 2, 100, 0, 100));
        for (int i = 0; i < 8; i++) {
            C.row("field " + i, i + " " + i + " " + i, b.field(0, 0, 99, 999, 99), b.field(0, 1, 0, 1, 0),
                b.field(1, 1, 0, 1, 0));
        }
        C.row("full", "-100004 -100004 -100004 -100002 0", b.field(0, 0, 0, 1, 0), b.field(0, 1, 0, 1, 0),
            b.field(1, 1, 0, 1, 0), b.field(0, 1, 0, 0, 0), b.field(1, 0, 0, 1, 0));
    }

    private static void cost(String what, int[] old, int[] young, int want) {
        DioceseBook b = Check.with(0, 1);
        b.field(0, 0, old[0], old[1], old[2]);
        b.field(0, 1, young[0], young[1], young[2]);
        C.due(what, b.match(0, NONE), want);
    }

    private static void promise29Costs() {
        DioceseBook b = Check.with(0, 2);
        C.due("nothing", b.match(0, NONE), 0);
        b.field(0, 0, 1, 99, 1);
        C.row("left alone", "19 -1", b.match(0, NONE), b.match(0, 0));
        b.field(1, 1, 1, 100, 1);
        C.row("of another one", "20 19", b.match(1, NONE), b.match(0, NONE));
        b.field(0, 1, 1, 9, 1);
        C.row("both alone, cut each", "29 -1", b.match(0, NONE), b.match(0, 0));
        cost("like", new int[] {1, 50, 2}, new int[] {1, 50, 2}, 0);
        cost("acres less", new int[] {1, 50, 2}, new int[] {1, 41, 2}, 9);
        cost("acres more", new int[] {1, 41, 2}, new int[] {1, 50, 2}, 9);
        cost("name", new int[] {1, 50, 2}, new int[] {2, 50, 2}, 7);
        cost("neighbour", new int[] {1, 50, 2}, new int[] {1, 50, 1}, 3);
        cost("all", new int[] {1, 50, 2}, new int[] {2, 55, 1}, 15);
        cost("alone is less", new int[] {1, 1, 2}, new int[] {2, 99, 1}, 10 + 19);
        cost("most", new int[] {1, 1, 2}, new int[] {2, 999, 1}, 10 + 109);
    }

    private static void promise29First() {
        DioceseBook b = Check.with(0, 1);
        for (int i = 0; i < 8; i++) {
            b.field(0, 0, 1, 10, 1);
            b.field(0, 1, 1, 10, 1);
        }
        for (int i = 0; i < 8; i++) {
            C.due("all like, each with its own " + i, b.match(0, i), i);
        }
        C.due("all like", b.match(0, NONE), 0);
        DioceseBook c = Check.with(0, 1);
        c.field(0, 0, 1, 10, 1);
        c.field(0, 0, 1, 10, 1);
        c.field(0, 1, 1, 10, 1);
        C.row("the first is matched", "11 0 -1", c.match(0, NONE), c.match(0, 0), c.match(0, 1));
        DioceseBook d = Check.with(0, 1);
        d.field(0, 0, 1, 1, 1);
        d.field(0, 1, 2, 14, 1);
        C.row("matched where that is the less", "20 0", d.match(0, NONE), d.match(0, 0));
        DioceseBook g = Check.with(0, 1);
        g.field(0, 0, 1, 5, 1);
        g.field(0, 1, 2, 17, 1);
        C.row("where it is less by one", "19 0", g.match(0, NONE), g.match(0, 0));
        g = Check.with(0, 1);
        g.field(0, 0, 1, 5, 1);
        g.field(0, 1, 2, 16, 2);
        C.row("alone last where it is as dear", "21 0", g.match(0, NONE), g.match(0, 0));
        g = Check.with(0, 1);
        g.field(0, 0, 1, 5, 1);
        g.field(0, 1, 2, 17, 2);
        C.row("alone where it is less", "21 -1", g.match(0, NONE), g.match(0, 0));
        DioceseBook e = Check.with(0, 1);
        e.field(0, 0, 1, 30, 1);
        e.field(0, 0, 1, 20, 1);
        e.field(0, 1, 1, 20, 1);
        e.field(0, 1, 1, 30, 1);
        C.row("crosswise", "0 1 0", e.match(0, NONE), e.match(0, 0), e.match(0, 1));
        e.field(0, 0, 9, 500, 9);
        C.row("and one alone", "60 1 0 -1 -1", e.match(0, NONE), e.match(0, 0), e.match(0, 1), e.match(0, 2),
            e.match(0, 3));
        DioceseBook f = Check.with(0, 1);
        f.field(0, 0, 1, 30, 1);
        f.field(0, 0, 1, 20, 1);
        f.field(0, 1, 1, 25, 1);
        f.field(0, 1, 1, 25, 1);
        C.row("the lesser one first", "10 0 1", f.match(0, NONE), f.match(0, 0), f.match(0, 1));
    }

    private static void promise29Refusals() {
        DioceseBook b = Check.with(0, 1);
        b.field(0, 0, 1, 30, 1);
        b.field(0, 1, 1, 30, 1);
        C.row("match", "-100001 -100001 -100001 0 -1 -1 -1 -1", b.match(1, 0), b.match(-1, NONE), b.match(1, NONE),
            b.match(0, 0), b.match(0, 1), b.match(0, -2), b.match(0, Integer.MIN_VALUE), b.match(0, Integer.MAX_VALUE));
    }

    private static void promise30() {
        DioceseBook b = new DioceseBook();
        C.row("refused", "-100002 -100002 -100002 -100002 -100002 -100002 -100002 -100002 -100002",
            b.piece(-1, 0, 0, 0, 0), b.piece(100, 0, 0, 0, 0), b.piece(0, -51, 0, 0, 0), b.piece(0, 51, 0, 0, 0),
            b.piece(0, 0, -51, 0, 0), b.piece(0, 0, 51, 0, 0), b.piece(0, 0, 0, -1, 0), b.piece(0, 0, 0, 0, 30001),
            b.piece(0, 0, 0, 5, 4));
        for (int i = 0; i < 16; i++) {
            C.due("piece " + i, b.piece(i % 2 * 99, 50, -50, 0, i % 2 * 30000), i);
        }
        C.row("full", "-100004 -100002 16", b.piece(0, 0, 0, 0, 0), b.piece(0, 0, 0, 5, 4), b.count(7));
    }

    private static void promise31() {
        DioceseBook b = new DioceseBook();
        b.piece(1, 0, 0, 100, 200);
        b.piece(1, 0, 0, 200, 300);
        b.piece(2, 0, 0, 201, 300);
        b.piece(1, 20, 0, 201, 300);
        b.piece(1, 11, -10, 201, 300);
        b.piece(1, -11, 10, 202, 300);
        b.piece(1, 0, 0, 199, 300);
        b.piece(1, 0, 1, 200, 200);
        b.piece(1, 50, -50, 205, 205);
        b.piece(1, 50, -50, 204, 205);
        C.row("with 0", "0 1 0 1 0 1 0 0 1 0", b.one(0, 0), b.one(0, 1), b.one(0, 2), b.one(0, 3), b.one(0, 4),
            b.one(0, 5), b.one(0, 6), b.one(0, 7), b.one(0, 8), b.one(0, 9));
        C.row("either way", "1 0 1 0 1 0 0 1 0", b.one(1, 0), b.one(2, 0), b.one(3, 0), b.one(4, 0),
            b.one(5, 0), b.one(6, 0), b.one(7, 0), b.one(8, 0), b.one(9, 0));
        C.row("refused", "-100001 -100001 -100001 -100001", b.one(10, 0), b.one(0, 10), b.one(-1, 0), b.one(0, -1));
    }

    private static void promise31SingleDays() {
        DioceseBook b = new DioceseBook();
        b.piece(1, 0, 0, 5, 5);
        b.piece(1, 0, 0, 5, 5);
        b.piece(1, 0, 1, 5, 5);
        b.piece(1, 0, 0, 5, 9);
        b.piece(1, 0, 0, 1, 5);
        C.row("of one day", "1 1 0 0 1 1 1", b.one(0, 1), b.one(1, 0), b.one(1, 2), b.one(0, 0), b.one(3, 0),
            b.one(4, 0), b.one(4, 3));
        C.row("rows", "2 1 3 -1 -1 0", b.lives(NONE), b.lives(0), b.lives(1), b.lives(2), b.lives(3), b.lives(4));
    }

    private static void promise32() {
        DioceseBook b = new DioceseBook();
        C.row("none", "0 -100001 -100001", b.lives(NONE), b.lives(0), b.lives(-2));
        b.piece(1, 0, 0, 10, 20);
        C.row("one", "1 -1 -100001", b.lives(NONE), b.lives(0), b.lives(1));
        b.piece(1, 0, 0, 0, 5);
        C.row("two", "1 -1 0", b.lives(NONE), b.lives(0), b.lives(1));
        b.piece(1, 0, 0, 5, 10);
        C.row("three", "1 -1 2 0", b.lives(NONE), b.lives(0), b.lives(1), b.lives(2));
        b.piece(2, 0, 0, 20, 30);
        C.row("another name", "2 -1 2 0 -1", b.lives(NONE), b.lives(0), b.lives(1), b.lives(2), b.lives(3));
    }

    private static void promise32First() {
        DioceseBook b = new DioceseBook();
        b.piece(1, 0, 0, 0, 10);
        b.piece(1, 50, 50, 0, 10);
        b.piece(1, 0, 0, 20, 30);
        b.piece(1, -50, -50, 15, 30);
        C.row("the least would cost a row", "2 3 2 -1 -1", b.lives(NONE), b.lives(0), b.lives(1), b.lives(2),
            b.lives(3));
        DioceseBook c = new DioceseBook();
        for (int i = 0; i < 16; i++) {
            c.piece(1, 0, 0, i < 8 ? 0 : 20, i < 8 ? 10 : 30);
        }
        for (int i = 0; i < 8; i++) {
            C.row("each its own", 8 + i + " -1", c.lives(i), c.lives(8 + i));
        }
        C.due("eight rows", c.lives(NONE), 8);
        DioceseBook d = new DioceseBook();
        for (int i = 0; i < 16; i++) {
            d.piece(1, 0, 0, 100, 100);
        }
        C.row("one row of one day", "1 1 15 -1", d.lives(NONE), d.lives(0), d.lives(14), d.lives(15));
        DioceseBook e = new DioceseBook();
        e.piece(1, 0, 0, 0, 10);
        e.piece(1, 0, 0, 0, 10);
        e.piece(1, 0, 0, 10, 20);
        C.row("the first has it", "2 2 -1 -1", e.lives(NONE), e.lives(0), e.lives(1), e.lives(2));
    }

    private static void plan(String what, DioceseBook b, int set, int miles, String want) {
        C.row(what, want, b.plan(set, miles, NONE), b.plan(set, miles, IN_ALL), b.plan(set, miles, 0),
            b.plan(set, miles, 1), b.plan(set, miles, 2), b.plan(set, miles, 3));
    }

    private static DioceseBook places(int... xy) {
        DioceseBook b = new DioceseBook();
        for (int i = 0; i < xy.length; i += 2) {
            b.living(xy[i], xy[i + 1], 0);
        }
        return b;
    }

    private static void promise33Rides() {
        DioceseBook b = places(10, 0, 20, 0, 30, 0, -10, 0, 0, 50);
        plan("one", b, 1, 20, "1 20 1 0 0 0");
        plan("on one way", b, 7, 60, "1 60 7 0 0 0");
        plan("both ways", b, 15, 80, "1 80 15 0 0 0");
        plan("two days", b, 15, 79, "2 80 7 8 0 0");
        plan("of like miles the least first set", b, 15, 60, "2 80 7 8 0 0");
        plan("all", b, 31, 180, "1 180 31 0 0 0");
        plan("the fewest days", b, 31, 179, "2 180 7 24 0 0");
        plan("the fewest days ahead of miles", b, 31, 100, "2 180 15 16 0 0");
        DioceseBook c = places(50, 50, -50, -50, 50, -50, -50, 50);
        plan("round", c, 15, 999, "1 500 15 0 0 0");
        plan("by twos", c, 15, 399, "2 600 5 10 0 0");
        plan("alone", c, 15, 299, "4 800 1 2 4 8");
        C.row("behind", "8 0 0", c.plan(15, 299, 3), c.plan(15, 299, 4), c.plan(15, 299, Integer.MAX_VALUE));
    }

    private static void promise33First() {
        DioceseBook b = places(0, 0, 0, 0, 5, 0, 0, 0);
        plan("at THE SEE", b, 11, 1, "1 0 11 0 0 0");
        plan("with one", b, 15, 10, "1 10 15 0 0 0");
        DioceseBook c = places(0, 0, 50, 0, -50, 0, 0, 0);
        plan("those at THE SEE on either day: the least first", c, 15, 100, "2 200 2 13 0 0");
        DioceseBook d = new DioceseBook();
        for (int i = 0; i < 12; i++) {
            d.living(i < 4 ? 50 : -10, i < 4 ? 50 : 0, 0);
        }
        C.row("eight of twelve", "1 200 15 -100002 -100002", d.plan(15, 200, NONE), d.plan(15, 200, IN_ALL),
            d.plan(15, 200, 0), d.plan(511, 200, 0), d.plan(4095, 200, 0));
        plan("eight", d, 255, 999, "1 220 255 0 0 0");
        plan("eight by two", d, 255, 219, "2 220 15 240 0 0");
        plan("the last of them", d, 4080, 20, "1 20 4080 0 0 0");
    }

    private static void promise33Refusals() {
        DioceseBook b = places(10, 0, 20, 0);
        C.row("unknown", "-100001 -100001 -100001 -100001", b.plan(4, 0, 0), b.plan(7, 100, 0), b.plan(-1, 100, 0),
            b.plan(Integer.MIN_VALUE, 100, 0));
        C.row("outside", "-100002 -100002 -100002 -100002 -100002 -100002", b.plan(0, 100, 0), b.plan(1, 0, 0),
            b.plan(1, 1000, 0), b.plan(1, -5, 0), b.plan(1, 100, -3), b.plan(3, 1, -3));
        C.row("not", "-100003 -100003 -100003 20 20", b.plan(1, 19, 0), b.plan(3, 39, NONE), b.plan(3, 39, 9),
            b.plan(1, 20, IN_ALL), b.plan(1, 999, IN_ALL));
        C.row("another set with the same miles", "20 40 3 2", b.plan(1, 40, IN_ALL), b.plan(3, 40, IN_ALL),
            b.plan(3, 40, 0), b.plan(2, 40, 0));
        C.row("the same set with other miles", "1 -100003 1", b.plan(3, 40, NONE), b.plan(3, 39, NONE),
            b.plan(3, 41, NONE));
    }
}
