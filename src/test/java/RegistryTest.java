/** Promises 1 to 10: persons, livings, papers. */
public final class RegistryTest {
    private static final Check C = new Check();
    private static final int[] KINDS = {0, 1, 2, 3, 4, 5, 6, 7, 8, 9, 10, 11, 12};

    public static void main(String[] args) {
        promise1();
        promise2();
        promise3();
        promise4();
        promise5();
        promise6Refusals();
        promise6NumbersNotLookedAt();
        promise6Full();
        promise7();
        promise7Void();
        promise8();
        promise9();
        promise9Full();
        promise10();
        C.end();
    }

    private static void promise1() {
        DioceseBook b = new DioceseBook();
        for (int what = 0; what <= 10; what++) {
            C.due("new count " + what, b.count(what), 0);
        }
        C.due("new book", b.book(0, 0), Check.NONE);
        C.due("new fault", b.fault(), Check.NONE);
        C.due("new lives", b.lives(Check.NONE), 0);
        C.due("new person", b.about(0, 0, 0), Check.UNKNOWN);
        C.due("new living", b.seat(0, 0, 0, 0), Check.UNKNOWN);
        C.due("new news", b.news(0, 0, 0), 0);
    }

    private static void promise2() {
        DioceseBook b = new DioceseBook();
        C.row("go", "0 5 -100002 -100002 10004 20003 -100003 29999 30000 30000 -100003",
            b.go(0), b.go(5), b.go(-1), b.go(10000), b.go(9999), b.go(9999), b.go(9998), b.go(9996), b.go(1), b.go(0),
            b.go(1));
        C.due("NOW", b.count(0), 30000);
        C.due("OUTSIDE ahead of NOT", b.go(10000), Check.OUTSIDE);
    }

    private static void promise3() {
        DioceseBook b = new DioceseBook();
        C.row("person", "-100002 -100002 0", b.person(-1), b.person(10000), b.person(9999));
        for (int i = 1; i < 40; i++) {
            C.due("person " + i, b.person(0), i);
        }
        C.row("full", "-100004 -100002 40", b.person(0), b.person(-1), b.count(1));
    }

    private static void promise4() {
        DioceseBook b = new DioceseBook();
        C.row("living", "-100002 -100002 -100002 -100002 -100002 -100002 0", b.living(-51, 0, 0), b.living(51, 0, 0),
            b.living(0, -51, 0), b.living(0, 51, 0), b.living(0, 0, -1), b.living(0, 0, 1000), b.living(-50, 50, 999));
        for (int i = 1; i < 12; i++) {
            C.due("living " + i, b.living(50, -50, 0), i);
        }
        C.row("full", "-100004 -100002 12", b.living(0, 0, 0), b.living(51, 0, 0), b.count(2));
    }

    private static void promise5() {
        DioceseBook b = Check.with(1, 1);
        C.row("set", "10 999 100 9999", b.set(0, 0, 999), b.set(0, 0, 0), b.set(1, 0, 9999), b.set(1, 0, 0));
        C.row("refused", "-100001 -100001 -100001 -100001 -100002 -100002 -100002 -100002 -100002 -100002",
            b.set(0, 1, 0), b.set(1, 1, 0), b.set(0, -1, 1000), b.set(1, -1, -1), b.set(0, 0, 1000), b.set(0, 0, -1),
            b.set(1, 0, 10000), b.set(1, 0, -1), b.set(2, 9, 0), b.set(-1, 0, 0));
        C.row("nothing changed", "0 0", b.set(0, 0, 7), b.set(1, 0, 7));
    }

    private static void promise6Refusals() {
        DioceseBook b = Check.with(2, 1);
        b.go(10);
        C.due("first", b.paper(Check.BORN, 10, 0, 0, 0, 0), 0);
        boolean[] hasL = {false, false, false, true, true, false, false, true, true, true, true, true, false};
        boolean[] hasP = {true, true, true, true, true, true, true, true, true, true, false, false, false};
        boolean[] hasQ = {false, false, false, true, false, false, true, true, false, true, false, false, false};
        for (int kind : KINDS) {
            C.due("l of " + kind, b.paper(kind, 11, 1, 0, 1, 0), hasL[kind] ? Check.UNKNOWN : Check.OUTSIDE);
            C.due("l below of " + kind, b.paper(kind, 11, -1, 0, 1, 0), hasL[kind] ? Check.UNKNOWN : Check.OUTSIDE);
            C.due("p of " + kind, b.paper(kind, 11, 0, 2, 1, 0), hasP[kind] ? Check.UNKNOWN : Check.OUTSIDE);
            C.due("q of " + kind, b.paper(kind, 11, 0, 0, 2, 0), hasQ[kind] ? Check.UNKNOWN : Check.OUTSIDE);
            C.due("NONE as q of " + kind, b.paper(kind, 11, 0, 0, -1, 0), hasQ[kind] ? Check.UNKNOWN : Check.OUTSIDE);
            C.due("BISHOP as q of " + kind, b.paper(kind, 11, 0, 0, -2, 0),
                hasQ[kind] && kind != Check.IN ? Check.UNKNOWN : Check.OUTSIDE);
            C.due("-5 as q of " + kind, b.paper(kind, 11, 0, 0, -5, 0), hasQ[kind] ? Check.UNKNOWN : Check.OUTSIDE);
            C.due("v of " + kind, b.paper(kind, 11, 0, 0, 1, 1), kind == Check.VOID ? Check.UNKNOWN : Check.OUTSIDE);
            C.due("DAY below of " + kind, b.paper(kind, -1, 0, 0, 1, 0), Check.OUTSIDE);
        }
        C.row("v of VOID", "-100001 -100001", b.paper(12, 0, 0, 0, 0, -1), b.paper(12, 0, 0, 0, 0, 1));
        C.row("v of SURVEY", "-100002 -100002 1 2", b.paper(11, 0, 0, 0, 0, -1), b.paper(11, 0, 0, 0, 0, 10000),
            b.paper(11, 0, 0, 0, 0, 0), b.paper(11, 0, 0, 0, 0, 9999));
        C.row("KIND", "-100002 -100002", b.paper(-1, 0, 9, 9, 9, 9), b.paper(13, 0, 9, 9, 9, 9));
        C.row("one twice", "-100002 -100002 3 4", b.paper(6, 0, 0, 1, 1, 0), b.paper(7, 0, 0, 1, 1, 0),
            b.paper(9, 0, 0, 1, 1, 0), b.paper(3, 0, 0, 1, 1, 0));
        C.row("presented by", "5 6 7 -100001", b.paper(3, 0, 0, 0, -2, 0), b.paper(3, 0, 0, 0, -3, 0),
            b.paper(3, 0, 0, 0, -4, 0), b.paper(3, 0, 0, 0, -5, 0));
        C.due("how many", b.count(3), 8);
    }

    private static void promise6NumbersNotLookedAt() {
        DioceseBook b = Check.with(2, 1);
        C.row("not looked at", "0 1 2 3 4 5 6 7 8 9 10 11", b.paper(0, 0, -7, 0, -7, -7), b.paper(1, 0, -7, 0, -7, -7),
            b.paper(2, 0, -7, 0, -7, -7), b.paper(5, 0, -7, 0, -7, -7), b.paper(4, 0, 0, 0, -7, -7),
            b.paper(8, 0, 0, 0, 0, -7), b.paper(6, 0, -7, 0, 1, -7), b.paper(7, 0, 0, 0, 1, -7),
            b.paper(9, 0, 0, 0, 1, -7), b.paper(10, 0, 0, -7, -7, -7), b.paper(11, 0, 0, -7, -7, 7),
            b.paper(12, 0, -7, -7, -7, 7));
    }

    private static void promise6Full() {
        DioceseBook b = Check.with(1, 0);
        for (int i = 0; i < 150; i++) {
            C.due("paper " + i, b.paper(0, 0, 0, 0, 0, 0), i);
        }
        C.row("full", "-100004 -100002 -100001 150", b.paper(0, 0, 0, 0, 0, 0), b.paper(0, 1, 0, 0, 0, 0),
            b.paper(0, 1, 0, 1, 0, 0), b.count(3));
        C.row("the last of them", "149 149 -1", b.told(149, 0) + 149, b.book(0, 149), b.book(0, 150));
    }

    private static int[] told(DioceseBook b, int i) {
        int[] row = new int[8];
        for (int what = 0; what < 8; what++) {
            row[what] = b.told(i, what);
        }
        return row;
    }

    private static void promise7() {
        DioceseBook b = Check.with(4, 3);
        b.go(20);
        String[] want = {"0 5 20 -1 3 -1 -1 0", "1 5 20 -1 3 -1 -1 0", "2 5 20 -1 3 -1 -1 0", "3 5 20 2 3 1 -1 0",
            "4 5 20 2 3 -1 -1 0", "5 5 20 -1 3 -1 -1 0", "6 5 20 -1 3 1 -1 0", "7 5 20 2 3 1 -1 0",
            "8 5 20 2 3 -1 -1 0", "9 5 20 2 3 1 -1 0", "10 5 20 2 -1 -1 -1 0", "11 5 20 2 -1 -1 0 1",
            "12 5 20 -1 -1 -1 11 0"};
        for (int kind : KINDS) {
            C.due("paper", b.paper(kind, 5, 2, 3, 1, kind == Check.VOID ? 11 : 0), kind);
        }
        for (int kind : KINDS) {
            C.row("told " + kind, want[kind], told(b, kind));
        }
        b.paper(Check.IN, 6, 1, 0, -3, 0);
        C.row("told by THE PRIMATE", "3 6 20 1 0 -3 -1 0", told(b, 13));
        C.row("refused", "-100001 -100001 -100002 -100002 -100001", b.told(14, 0), b.told(-1, 0), b.told(0, 8),
            b.told(0, -1), b.told(14, 9));
    }

    private static void promise7Void() {
        DioceseBook b = Check.with(1, 1);
        b.paper(0, 0, 0, 0, 0, 0);
        b.go(1);
        b.paper(12, 0, 0, 0, 0, 0);
        C.row("void", "1 0 1", b.told(0, 7), b.told(1, 7), b.count(4));
        b.go(1);
        b.paper(12, 0, 0, 0, 0, 1);
        C.row("void is void", "0 1 0 1", b.told(0, 7), b.told(1, 7), b.told(2, 7), b.count(4));
        C.row("as known", "0 -1 1 -1 0 2 -1", b.book(0, 0), b.book(0, 1), b.book(1, 0), b.book(1, 1), b.book(2, 0),
            b.book(2, 1), b.book(2, 2));
        b.paper(12, 0, 0, 0, 0, 2);
        C.row("void of void is void", "1 0 1 0 2", b.told(0, 7), b.told(1, 7), b.told(2, 7), b.told(3, 7), b.count(4));
        b.paper(12, 0, 0, 0, 0, 2);
        C.row("twice void", "1 0 1 0 0 2", b.told(0, 7), b.told(1, 7), b.told(2, 7), b.told(3, 7), b.told(4, 7),
            b.count(4));
    }

    private static void promise8() {
        DioceseBook b = Check.with(1, 1);
        b.go(10);
        b.paper(0, 7, 0, 0, 0, 0);
        b.paper(1, 3, 0, 0, 0, 0);
        b.paper(2, 7, 0, 0, 0, 0);
        b.go(5);
        b.paper(5, 0, 0, 0, 0, 0);
        C.row("known 15", "3 1 0 2 -1", b.book(15, 0), b.book(15, 1), b.book(15, 2), b.book(15, 3), b.book(15, 4));
        C.row("known 14", "1 0 2 -1", b.book(14, 0), b.book(14, 1), b.book(14, 2), b.book(14, 3));
        C.row("known 9", "-1 -1 -1", b.book(9, 0), b.book(9, -1), b.book(9, Integer.MAX_VALUE));
        C.row("refused", "-100002 -100002 -100002", b.book(16, 0), b.book(-1, 0), b.book(16, 99));
        C.row("below", "-1 -1", b.book(15, -1), b.book(15, Integer.MIN_VALUE));
    }

    private static void promise9() {
        DioceseBook b = Check.with(4, 1);
        b.go(100);
        C.row("nothing", "-1 -1 -1 -1 0", b.about(0, 100, 0), b.about(0, 100, 1), b.about(0, 100, 2),
            b.about(0, 100, 3), b.about(0, 100, 4));
        for (int kind = 0; kind < 3; kind++) {
            b.paper(kind, 30 + kind, 0, 0, 0, 0);
            b.paper(kind, 20 + kind, 0, 0, 0, 0);
            b.paper(kind, 10, 0, 1, 0, 0);
        }
        C.row("the first", "20 21 22", b.about(0, 100, 0), b.about(0, 100, 1), b.about(0, 100, 2));
        b.paper(6, 50, 0, 0, 1, 0);
        b.paper(6, 50, 0, 0, 2, 0);
        C.row("heir", "2 -1", b.about(0, 100, 3), b.about(1, 100, 3));
        b.go(1);
        b.paper(6, 60, 0, 0, 3, 0);
        b.paper(5, 101, 0, 0, 0, 0);
        C.row("leave, heir", "2 0 3 1 0", b.about(0, 100, 3), b.about(0, 100, 4), b.about(0, 101, 3), b.about(0, 101, 4),
            b.about(1, 101, 4));
        C.row("refused", "-100001 -100001 -100002 -100002 -100002 -100002 -100001", b.about(4, 0, 0), b.about(-1, 0, 0),
            b.about(0, 102, 0), b.about(0, -1, 0), b.about(0, 0, 5), b.about(0, 0, -1), b.about(4, 102, 5));
    }

    /** With all PAPERS told there is no row behind the last one of THE BOOK. */
    private static void promise9Full() {
        DioceseBook b = Check.with(3, 1);
        b.go(10);
        b.paper(6, 5, 0, 0, 1, 0);
        b.paper(12, 5, 0, 0, 0, 0);
        for (int i = 2; i < 149; i++) {
            b.paper(8, 1, 0, 0, 0, 0);
        }
        b.go(1);
        b.paper(6, 6, 0, 1, 2, 0);
        C.row("heirs", "-1 2 -1 -1", b.about(0, 11, 3), b.about(1, 11, 3), b.about(1, 10, 3), b.about(2, 10, 3));
        C.row("patron", "0 -1", b.seat(0, 10, 11, 5), b.book(10, 148));
    }

    private static void promise10() {
        DioceseBook b = Check.with(3, 4);
        b.go(7);
        b.paper(3, 7, 0, 0, -4, 0);
        b.paper(3, 7, 0, 1, -4, 0);
        b.paper(3, 7, 1, 2, -4, 0);
        b.paper(12, 7, 0, 0, 0, 2);
        b.present(0, 0, 0);
        b.piece(0, 0, 0, 0, 0);
        b.piece(0, 0, 0, 0, 0);
        Check.canon(b, 0, "let fee 1;");
        Check.feed(b, "let");
        int[] got = new int[11];
        for (int what = 0; what <= 10; what++) {
            got[what] = b.count(what);
        }
        C.row("count", "7 3 4 4 1 1 1 2 3 1 3", got);
        C.row("refused", "-100002 -100002", b.count(11), b.count(-1));
    }
}
