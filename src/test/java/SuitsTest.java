/** Promises 23 to 27: SUITS and DECAY. */
public final class SuitsTest {
    private static final Check C = new Check();

    public static void main(String[] args) {
        promise23();
        promise24();
        promise25();
        promise26Steps();
        promise26Sleep();
        promise26Fees();
        promise27Ends();
        promise27Surveys();
        promise27Canons();
        promise27Paid();
        promise27AsKnown();
        C.end();
    }

    private static void promise23() {
        DioceseBook b = Check.with(1, 1);
        b.go(10);
        C.row("refused", "-100001 -100001 -100001 -100001 -100002 -100002 -100001", b.present(1, 0, 0),
            b.present(-1, 0, 0), b.present(0, 1, 0), b.present(0, -1, 0), b.present(0, 0, -1), b.present(0, 0, 11),
            b.present(1, 0, 11));
        for (int i = 0; i < 20; i++) {
            C.due("suit " + i, b.present(0, 0, i % 2 * 10), i);
        }
        C.row("full", "-100004 -100002 -100001 20", b.present(0, 0, 0), b.present(0, 0, 11), b.present(0, 1, 0),
            b.count(6));
    }

    private static void promise24() {
        DioceseBook b = Check.with(1, 1);
        b.go(100);
        b.present(0, 0, 50);
        b.present(0, 0, 0);
        C.row("refused", "-100001 -100001 -100002 -100002 -100002 -100001", b.step(2, 0), b.step(-1, 0), b.step(0, 49),
            b.step(0, 101), b.step(1, -1), b.step(2, 101));
        C.row("steps", "1 2 -100002 3 4 5", b.step(0, 50), b.step(0, 60), b.step(0, 59), b.step(0, 60), b.step(0, 70),
            b.step(0, 100));
        C.row("five are done", "-100003 -100002 -100002 5", b.step(0, 100), b.step(0, 101), b.step(0, 99),
            b.suit(0, 100, 0));
        C.row("the other one", "1 1", b.step(1, 0), b.suit(1, 0, 0));
    }

    private static void promise25() {
        DioceseBook b = Check.with(1, 1);
        b.go(100);
        b.present(0, 0, 50);
        C.row("no step", "-100003 -100003 -100002 -100002 -100001 -100001 -100001", b.appeal(0, 1), b.appeal(0, 5),
            b.appeal(0, 0), b.appeal(0, 6), b.appeal(1, 1), b.appeal(-1, 1), b.appeal(1, 0));
        b.step(0, 60);
        b.step(0, 70);
        b.step(0, 80);
        C.row("undone", "-100003 2 -100003 2", b.appeal(0, 4), b.appeal(0, 3), b.appeal(0, 3), b.suit(0, 100, 0));
        C.row("the next one", "-100002 3 0 -100003 -100002 1", b.step(0, 69), b.step(0, 70), b.appeal(0, 1),
            b.appeal(0, 1), b.step(0, 49), b.step(0, 50));
    }

    private static void promise26Steps() {
        DioceseBook b = Check.with(1, 1);
        b.go(100);
        b.present(0, 0, 50);
        C.row("presented", "0 -1 0 0 50 0", b.suit(0, 49, 0), b.suit(0, 49, 1), b.suit(0, 49, 2), b.suit(0, 50, 0),
            b.suit(0, 50, 1), b.suit(0, 50, 2));
        b.step(0, 60);
        b.step(0, 60);
        b.step(0, 70);
        C.row("by then", "0 2 2 3 3", b.suit(0, 59, 0), b.suit(0, 60, 0), b.suit(0, 69, 0), b.suit(0, 70, 0),
            b.suit(0, 30000, 0));
        C.row("the last", "50 60 60 70 70", b.suit(0, 59, 1), b.suit(0, 60, 1), b.suit(0, 69, 1), b.suit(0, 70, 1),
            b.suit(0, 30000, 1));
        b.appeal(0, 1);
        C.row("undone", "0 50", b.suit(0, 70, 0), b.suit(0, 70, 1));
        C.row("refused", "-100001 -100001 -100002 -100002 -100002 -100002 -100001", b.suit(1, 0, 0), b.suit(-1, 0, 0),
            b.suit(0, -1, 0), b.suit(0, 30001, 0), b.suit(0, 0, -1), b.suit(0, 0, 4), b.suit(1, -1, 4));
    }

    private static void promise26Sleep() {
        DioceseBook b = Check.with(1, 1);
        b.go(1000);
        b.present(0, 0, 50);
        C.due("never at first", b.suit(0, 30000, 2), 0);
        Check.canon(b, 70, "let steps 10;");
        Check.canon(b, 300, "let steps 0;");
        C.row("since presented", "0 1 1 0", b.suit(0, 69, 2), b.suit(0, 70, 2), b.suit(0, 299, 2), b.suit(0, 300, 2));
        b.step(0, 80);
        C.row("since the last step by then", "1 0 0 1", b.suit(0, 79, 2), b.suit(0, 80, 2), b.suit(0, 90, 2),
            b.suit(0, 91, 2));
        for (int i = 0; i < 4; i++) {
            b.step(0, 85);
        }
        C.row("closed", "1 0 0 0", b.suit(0, 79, 2), b.suit(0, 84, 2), b.suit(0, 85, 2), b.suit(0, 299, 2));
        b.appeal(0, 5);
        C.row("undone", "0 1", b.suit(0, 95, 2), b.suit(0, 96, 2));
        DioceseBook c = Check.with(1, 1);
        c.go(100);
        Check.canon(c, 0, "let steps 1;");
        c.present(0, 0, 50);
        C.row("not before it is presented", "0 0 0 1", c.suit(0, 0, 2), c.suit(0, 49, 2), c.suit(0, 51, 2),
            c.suit(0, 52, 2));
    }

    private static void promise26Fees() {
        DioceseBook b = Check.with(1, 1);
        b.go(1000);
        Check.canon(b, 50, "let fee 7;");
        Check.canon(b, 60, "let fee 100;");
        b.present(0, 0, 0);
        C.due("no step", b.suit(0, 30000, 3), 0);
        b.step(0, 49);
        b.step(0, 50);
        b.step(0, 59);
        b.step(0, 60);
        C.row("of all", "114 114", b.suit(0, 30000, 3), b.suit(0, 0, 3));
        b.appeal(0, 4);
        C.due("not of those undone", b.suit(0, 30000, 3), 14);
        b.step(0, 61);
        C.due("of the new one", b.suit(0, 30000, 3), 114);
        Check.canon(b, 49, "strike 0; let fee 1;");
        C.due("by the canons as they are", b.suit(0, 30000, 3), 103);
    }

    private static void decay(String what, DioceseBook b, int p, int l, String want) {
        int now = b.count(0);
        C.row(what, want, b.decay(p, l, now, 0), b.decay(p, l, now, 1), b.decay(p, l, now, 2), b.decay(p, l, now, 3));
    }

    private static int in(DioceseBook b, int day, int l, int p) {
        return b.paper(Check.IN, day, l, p, -4, 0);
    }

    private static int out(DioceseBook b, int day, int l, int p) {
        return b.paper(Check.OUT, day, l, p, 0, 0);
    }

    private static int survey(DioceseBook b, int day, int l, int v) {
        return b.paper(Check.SURVEY, day, l, 0, 0, v);
    }

    private static void promise27Ends() {
        DioceseBook b = Check.with(3, 3);
        b.go(1000);
        in(b, 10, 0, 0);
        survey(b, 10, 0, 9);
        decay("it is in", b, 0, 0, "-1 0 0 0");
        out(b, 20, 0, 0);
        decay("out", b, 0, 0, "20 0 0 0");
        decay("another one", b, 1, 0, "-1 0 0 0");
        decay("another living", b, 0, 1, "-1 0 0 0");
        in(b, 30, 0, 0);
        decay("in again", b, 0, 0, "20 0 0 0");
        in(b, 35, 0, 1);
        in(b, 40, 1, 0);
        decay("by another living", b, 0, 0, "40 0 0 0");
        b.paper(Check.DIED, 50, 0, 0, 0, 0);
        decay("by death", b, 0, 1, "50 0 0 0");
        decay("not by a second death", b, 0, 0, "40 0 0 0");
        C.row("refused", "-100001 -100001 -100001 -100001 -100002 -100002 -100002 -100002 -100001",
            b.decay(3, 0, 0, 0), b.decay(-1, 0, 0, 0), b.decay(0, 3, 0, 0), b.decay(0, -1, 0, 0), b.decay(0, 0, -1, 0),
            b.decay(0, 0, 1001, 0), b.decay(0, 0, 0, -1), b.decay(0, 0, 0, 4), b.decay(3, 0, -1, 4));
    }

    private static void promise27Surveys() {
        DioceseBook b = Check.with(3, 3);
        b.go(1000);
        in(b, 10, 0, 0);
        out(b, 100, 0, 0);
        survey(b, 99, 0, 1);
        survey(b, 191, 0, 2);
        survey(b, 100, 1, 3);
        decay("none", b, 0, 0, "100 0 0 0");
        survey(b, 190, 0, 40);
        decay("one, the last day", b, 0, 0, "100 40 40 0");
        survey(b, 150, 0, 50);
        decay("the lesser", b, 0, 0, "100 40 40 0");
        survey(b, 100, 0, 60);
        decay("the first two", b, 0, 0, "100 50 50 0");
        survey(b, 149, 0, 0);
        decay("nothing is the lesser", b, 0, 0, "100 0 0 0");
    }

    private static void promise27Canons() {
        DioceseBook b = Check.with(3, 3);
        b.go(1000);
        in(b, 10, 0, 0);
        out(b, 100, 0, 0);
        survey(b, 110, 0, 40);
        survey(b, 110, 0, 21);
        Check.canon(b, 101, "let decay 1;");
        decay("of the day of the end", b, 0, 0, "100 21 21 0");
        Check.canon(b, 100, "let decay 1;");
        decay("the greater", b, 0, 0, "100 40 40 0");
        Check.canon(b, 100, "let decay 2;");
        decay("half of both", b, 0, 0, "100 30 30 0");
        survey(b, 109, 0, 9999);
        decay("half of both, cut", b, 0, 0, "100 5019 100 4919");
    }

    private static void promise27Paid() {
        DioceseBook b = Check.with(3, 4);
        b.go(1000);
        b.set(1, 0, 100);
        int[] due = {30, 0, 60, 50};
        for (int l = 3; l >= 0; l--) {
            in(b, 10 + l, l, 0);
            out(b, 100, l, 0);
            survey(b, 100, l, due[l]);
        }
        C.row("paid by numbers", "30 0 60 10", b.decay(0, 0, 1000, 2), b.decay(0, 1, 1000, 2), b.decay(0, 2, 1000, 2),
            b.decay(0, 3, 1000, 2));
        C.row("owed", "0 0 0 40", b.decay(0, 0, 1000, 3), b.decay(0, 1, 1000, 3), b.decay(0, 2, 1000, 3),
            b.decay(0, 3, 1000, 3));
        b.set(1, 0, 29);
        C.row("less", "29 0 0 0", b.decay(0, 0, 1000, 2), b.decay(0, 1, 1000, 2), b.decay(0, 2, 1000, 2),
            b.decay(0, 3, 1000, 2));
        C.row("and owed", "1 0 60 50", b.decay(0, 0, 1000, 3), b.decay(0, 1, 1000, 3), b.decay(0, 2, 1000, 3),
            b.decay(0, 3, 1000, 3));
        b.set(1, 0, 0);
        C.row("nothing", "30 0 30", b.decay(0, 0, 1000, 1), b.decay(0, 0, 1000, 2), b.decay(0, 0, 1000, 3));
    }

    private static void promise27AsKnown() {
        DioceseBook b = Check.with(3, 3);
        b.go(1000);
        in(b, 10, 0, 0);
        out(b, 100, 0, 0);
        b.go(1);
        survey(b, 100, 0, 7);
        b.go(1);
        out(b, 200, 0, 0);
        b.paper(Check.VOID, 0, 0, 0, 0, 1);
        C.row("the end", "-1 100 100 200", b.decay(0, 0, 999, 0), b.decay(0, 0, 1000, 0), b.decay(0, 0, 1001, 0),
            b.decay(0, 0, 1002, 0));
        C.row("what it costs", "0 0 7 0", b.decay(0, 0, 999, 1), b.decay(0, 0, 1000, 1), b.decay(0, 0, 1001, 1),
            b.decay(0, 0, 1002, 1));
    }
}
