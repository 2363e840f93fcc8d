/** Promises 17 to 22: THE STORY. */
public final class StoryTest {
    private static final Check C = new Check();

    public static void main(String[] args) {
        emptyAndHeld();
        claimed();
        falls();
        lapseFromTheFirstDay();
        lapseByNotice();
        lapseByDeathAndByAnother();
        lapseByCanons();
        patronsByTurns();
        turnsUsed();
        turnsUsedWhenVoid();
        turnsUsedWhenLapsed();
        rightsToldAnew();
        soldTurns();
        heirs();
        twelveHeirs();
        twoLivings();
        twoLivingsByCanons();
        threeLivings();
        asKnown();
        promise17Refusals();
        promise18And19();
        reasonsTogether();
        barredByHoldersThen();
        promise20();
        promise21();
        promise22();
        C.end();
    }

    private static void seat(String what, DioceseBook b, int l, int day, String want) {
        int[] row = new int[8];
        for (int k = 0; k < 8; k++) {
            row[k] = b.seat(l, day, b.count(0), k);
        }
        C.row(what, want, row);
    }

    private static DioceseBook at(int day, int persons, int livings) {
        DioceseBook b = Check.with(persons, livings);
        for (int left = day; left > 0; left -= 9999) {
            b.go(Math.min(left, 9999));
        }
        return b;
    }

    private static int in(DioceseBook b, int day, int l, int p, int q) {
        return b.paper(Check.IN, day, l, p, q, 0);
    }

    private static int out(DioceseBook b, int day, int l, int p) {
        return b.paper(Check.OUT, day, l, p, 0, 0);
    }

    private static int alone(DioceseBook b, int day, int l, int p) {
        return b.paper(Check.ALONE, day, l, p, 0, 0);
    }

    private static int shared(DioceseBook b, int day, int l, int p, int q) {
        return b.paper(Check.SHARED, day, l, p, q, 0);
    }

    private static int sell(DioceseBook b, int day, int l, int p, int q) {
        return b.paper(Check.NEXT, day, l, p, q, 0);
    }

    private static int died(DioceseBook b, int day, int p) {
        return b.paper(Check.DIED, day, 0, p, 0, 0);
    }

    private static void emptyAndHeld() {
        DioceseBook b = at(100, 3, 2);
        seat("nobody", b, 0, 30000, "0 -1 0 0 0 -4 -1 0");
        in(b, 10, 0, 2, -4);
        seat("the day before", b, 0, 9, "0 -1 0 0 0 -4 -1 0");
        seat("held", b, 0, 10, "1 2 4 -1 -1 -1 -1 0");
        seat("held on", b, 0, 30000, "1 2 4 -1 -1 -1 -1 0");
        seat("another one", b, 1, 30000, "0 -1 0 0 0 -4 -1 0");
        out(b, 20, 0, 2);
        seat("out", b, 0, 20, "0 -1 0 20 2 -4 -1 0");
        seat("still in", b, 0, 19, "1 2 4 -1 -1 -1 -1 0");
        out(b, 25, 0, 2);
        out(b, 26, 0, 1);
        seat("outs that tell nothing new", b, 0, 30, "0 -1 0 20 2 -4 -1 0");
        in(b, 20, 0, 1, -4);
        seat("in on the day of the out", b, 0, 20, "1 1 2 -1 -1 -1 -1 0");
    }

    private static void claimed() {
        DioceseBook b = at(100, 40, 2);
        in(b, 30, 0, 5, -4);
        in(b, 20, 0, 31, -4);
        in(b, 25, 0, 30, -4);
        in(b, 40, 0, 30, -4);
        seat("three, the 31st not in the set", b, 0, 40, "3 31 1073741856 -1 -1 -1 -1 0");
        in(b, 22, 0, 39, -4);
        out(b, 24, 0, 31);
        seat("the first of who is left", b, 0, 40, "3 39 1073741856 -1 -1 -1 -1 0");
        in(b, 50, 0, 31, -4);
        out(b, 60, 0, 39);
        seat("in anew is the last", b, 0, 60, "3 30 1073741856 -1 -1 -1 -1 0");
        died(b, 70, 30);
        out(b, 71, 0, 5);
        seat("31 alone", b, 0, 71, "1 31 0 -1 -1 -1 -1 0");
        died(b, 72, 31);
        seat("none", b, 0, 72, "0 -1 0 72 1 -4 -1 0");
    }

    private static void falls() {
        DioceseBook b = at(100, 3, 3);
        b.paper(Check.LEAVE, 0, 0, 0, 0, 0);
        in(b, 10, 0, 0, -4);
        in(b, 10, 1, 0, -4);
        in(b, 11, 1, 1, -4);
        died(b, 20, 0);
        seat("dead in one", b, 0, 20, "0 -1 0 20 1 -4 -1 0");
        seat("dead in the other, which is claimed", b, 1, 20, "1 1 2 -1 -1 -1 -1 0");
        in(b, 30, 2, 0, -4);
        seat("a dead one comes in", b, 2, 30, "1 0 1 -1 -1 -1 -1 0");
        died(b, 40, 0);
        seat("and dies again", b, 2, 40, "0 -1 0 40 1 -4 -1 0");
    }

    private static void who(String what, DioceseBook b, int l, String want, int... days) {
        int[] row = new int[days.length];
        for (int k = 0; k < days.length; k++) {
            row[k] = b.seat(l, days[k], b.count(0), 5);
        }
        C.row(what, want, row);
    }

    private static void lapseFromTheFirstDay() {
        DioceseBook b = at(0, 1, 2);
        alone(b, 0, 0, 0);
        who("of six months", b, 0, "0 0 -2 -2 -3 -3 -4 -4", 0, 179, 180, 359, 360, 539, 540, 30000);
        who("without a right", b, 1, "-4 -4 -2 -2 -3 -3 -4 -4", 0, 179, 180, 359, 360, 539, 540, 30000);
    }

    private static void lapseByNotice() {
        DioceseBook b = at(2000, 2, 2);
        alone(b, 0, 0, 0);
        in(b, 10, 0, 1, 0);
        out(b, 1000, 0, 1);
        who("no notice", b, 0, "0 0 0", 1000, 1999, 30000);
        b.paper(Check.NOTICE, 999, 0, 0, 0, 0);
        b.paper(Check.NOTICE, 1001, 1, 0, 0, 0);
        who("notices that are none", b, 0, "0 0 0", 1000, 1999, 30000);
        b.paper(Check.NOTICE, 1100, 0, 0, 0, 0);
        who("notice", b, 0, "0 0 0 0 -2 -2 -3 -3 -4", 1000, 1099, 1100, 1279, 1280, 1459, 1460, 1639, 1640);
        b.paper(Check.NOTICE, 1000, 0, 0, 0, 0);
        who("an earlier one, of that day", b, 0, "0 -2 -2 -3 -3 -4", 1179, 1180, 1359, 1360, 1539, 1540);
        who("cause 0 needs none", b, 1, "-2 -3", 180, 360);
    }

    private static void lapseByDeathAndByAnother() {
        DioceseBook b = at(2000, 2, 3);
        alone(b, 0, 0, 0);
        alone(b, 0, 1, 0);
        in(b, 10, 0, 1, 0);
        in(b, 100, 1, 1, 0);
        seat("by another", b, 0, 100, "0 -1 0 100 3 0 0 0");
        who("from the day of the cession", b, 0, "0 -2 -3 -4", 279, 280, 460, 640);
        died(b, 1000, 1);
        seat("by death", b, 1, 1000, "0 -1 0 1000 1 0 0 0");
        who("from the day of death", b, 1, "0 -2 -3 -4", 1179, 1180, 1360, 1540);
    }

    private static void lapseByCanons() {
        DioceseBook b = at(2000, 2, 3);
        alone(b, 0, 0, 0);
        in(b, 10, 0, 1, 0);
        died(b, 1000, 1);
        Check.canon(b, 1000, "let lapse 1;");
        Check.canon(b, 1010, "let lapse 24;");
        who("of the day on which it fell empty", b, 0, "0 -2 -2 -3 -3 -4", 1029, 1030, 1059, 1060, 1089, 1090);
        Check.canon(b, 999, "strike 0;let lapse 0;");
        who("never", b, 0, "0 0", 1030, 30000);
        Check.canon(b, 0, "let lapse 24;");
        who("of day 0", b, 2, "-4 -2 -2 -3 -4", 719, 720, 1439, 1440, 2160);
    }

    private static void patronsByTurns() {
        DioceseBook b = at(100, 4, 2);
        shared(b, 5, 0, 1, 2);
        seat("before the right", b, 0, 4, "0 -1 0 0 0 -4 -1 0");
        seat("the first", b, 0, 5, "0 -1 0 0 0 1 1 0");
        in(b, 10, 0, 3, 1);
        seat("the second", b, 0, 10, "1 3 8 -1 -1 -1 2 0");
        out(b, 20, 0, 3);
        seat("his", b, 0, 20, "0 -1 0 20 2 2 2 0");
        in(b, 30, 0, 3, 2);
        out(b, 40, 0, 3);
        seat("the first again", b, 0, 40, "0 -1 0 40 2 1 1 0");
        alone(b, 50, 0, 3);
        in(b, 60, 0, 0, 3);
        seat("alone has all turns", b, 0, 60, "1 0 1 -1 -1 -1 3 0");
    }

    private static void turnsUsed() {
        DioceseBook b = at(100, 5, 2);
        shared(b, 0, 0, 1, 2);
        in(b, 10, 0, 3, 2);
        C.due("not by another one's hand", b.seat(0, 10, 100, 6), 1);
        in(b, 11, 0, 4, 1);
        C.due("not if it is held", b.seat(0, 11, 100, 6), 1);
        Check.canon(b, 200, "let void 1;");
        C.due("not by a later canon", b.seat(0, 11, 100, 6), 1);
    }

    private static void turnsUsedWhenVoid() {
        DioceseBook b = at(1000, 6, 2);
        Check.canon(b, 10, "let void 1;");
        shared(b, 0, 0, 1, 2);
        sell(b, 0, 0, 2, 5);
        in(b, 9, 0, 3, 2);
        in(b, 10, 0, 4, 2);
        C.due("not by another one's hand", b.seat(0, 10, 1000, 6), 1);
        in(b, 11, 0, 4, 1);
        C.row("used though void", "2 1", b.seat(0, 11, 1000, 6), b.seat(0, 11, 1000, 7));
        in(b, 12, 0, 4, 2);
        C.row("it was sold", "2 1", b.seat(0, 12, 1000, 6), b.seat(0, 12, 1000, 7));
        in(b, 13, 0, 0, 5);
        C.row("the buyer", "1 0", b.seat(0, 13, 1000, 6), b.seat(0, 13, 1000, 7));
        DioceseBook c = at(1000, 6, 2);
        Check.canon(c, 10, "let void 1;");
        shared(c, 0, 0, 1, 2);
        in(c, 200, 0, 3, 1);
        C.row("lapsed to THE BISHOP, by THE PATRON", "8 2", c.why(1, 1000), c.seat(0, 200, 1000, 6));
    }

    private static void turnsUsedWhenLapsed() {
        DioceseBook b = at(1000, 6, 3);
        shared(b, 0, 0, 1, 2);
        in(b, 180, 0, 3, -2);
        C.row("lapsed uses no turn", "1 1", b.good(1, 1000), b.seat(0, 180, 1000, 6));
        Check.canon(b, 181, "let lapsed 1;");
        C.due("nor by a later canon", b.seat(0, 180, 1000, 6), 1);
        Check.canon(b, 180, "let lapsed 1;");
        C.due("by the canons of that day", b.seat(0, 180, 1000, 6), 2);
        shared(b, 0, 1, 1, 2);
        sell(b, 0, 1, 1, 4);
        in(b, 400, 1, 5, -2);
        C.row("not good: THE PRIMATE's", "0 1 1", b.good(4, 1000), b.seat(1, 400, 1000, 6), b.seat(1, 400, 1000, 7));
        shared(b, 0, 2, 1, 2);
        sell(b, 0, 2, 1, 4);
        in(b, 540, 2, 5, -4);
        C.row("THE CROWN's, sold", "1 2 0", b.good(7, 1000), b.seat(2, 540, 1000, 6), b.seat(2, 540, 1000, 7));
        DioceseBook c = at(1000, 3, 1);
        Check.canon(c, 0, "let lapsed 1;");
        shared(c, 0, 0, 0, 1);
        died(c, 0, 0);
        in(c, 600, 0, 2, -4);
        C.row("THE CROWN is THE PATRON and has it by lapse: one turn", "1 1", c.good(2, 1000), c.seat(0, 600, 1000, 6));
    }

    private static void rightsToldAnew() {
        DioceseBook b = at(1000, 6, 2);
        shared(b, 0, 0, 1, 2);
        sell(b, 0, 0, 2, 4);
        in(b, 10, 0, 3, 1);
        shared(b, 20, 0, 1, 2);
        C.row("the first again", "2 1 1", b.seat(0, 19, 1000, 6), b.seat(0, 20, 1000, 6), b.seat(0, 20, 1000, 7));
        alone(b, 30, 0, 2);
        out(b, 31, 0, 3);
        seat("what he sold is sold", b, 0, 31, "0 -1 0 31 2 4 2 1");
        shared(b, 40, 0, 5, 2);
        seat("it is not his turn", b, 0, 40, "0 -1 0 31 2 5 5 1");
        in(b, 41, 0, 0, 5);
        out(b, 42, 0, 0);
        seat("now it is", b, 0, 42, "0 -1 0 42 2 4 2 1");
    }

    private static void soldTurns() {
        DioceseBook b = at(1000, 8, 2);
        alone(b, 0, 0, 0);
        sell(b, 50, 0, 0, 1);
        sell(b, 40, 0, 0, 2);
        sell(b, 40, 1, 0, 3);
        sell(b, 0, 0, 7, 4);
        seat("sold by nobody who has it", b, 0, 39, "0 -1 0 0 0 0 0 1");
        seat("sold", b, 0, 40, "0 -1 0 0 0 2 0 2");
        seat("sold twice, the first by days", b, 0, 50, "0 -1 0 0 0 2 0 3");
        in(b, 60, 0, 5, 2);
        out(b, 61, 0, 5);
        seat("the next buyer", b, 0, 61, "0 -1 0 61 2 1 0 2");
        in(b, 62, 0, 5, 1);
        out(b, 63, 0, 5);
        seat("none is left but one that is not his", b, 0, 63, "0 -1 0 63 2 0 0 1");
        seat("nothing sold without a right", b, 1, 63, "0 -1 0 0 0 -4 -1 1");
    }

    private static void heirs() {
        DioceseBook b = at(1000, 6, 2);
        alone(b, 0, 0, 0);
        sell(b, 0, 0, 0, 1);
        died(b, 100, 1);
        who("the buyer is dead", b, 0, "1 -4", 99, 100);
        b.paper(Check.HEIR, 110, 0, 1, 2, 0);
        b.paper(Check.HEIR, 105, 0, 1, 3, 0);
        who("his last heir by then", b, 0, "-4 3 3 2", 104, 105, 109, 110);
        died(b, 120, 2);
        b.paper(Check.HEIR, 1, 0, 2, 4, 0);
        who("the heir's heir", b, 0, "2 4", 119, 120);
        in(b, 130, 0, 5, 4);
        C.row("he presents in the sold turn", "1 0 0", b.good(7, 1000), b.seat(0, 130, 1000, 7), b.seat(0, 130, 1000, 6));
        died(b, 140, 0);
        out(b, 141, 0, 5);
        who("the patron is dead", b, 0, "-4", 141);
        b.paper(Check.HEIR, 0, 0, 0, 1, 0);
        who("by a dead heir to the living one", b, 0, "4", 141);
        b.paper(Check.HEIR, 150, 0, 4, 0, 0);
        died(b, 150, 4);
        who("round and round", b, 0, "4 -4", 149, 150);
        died(b, 160, 5);
        b.paper(Check.HEIR, 160, 0, 4, 5, 0);
        who("all dead", b, 0, "-4 -4", 159, 160);
    }

    private static void twelveHeirs() {
        DioceseBook b = at(10, 15, 1);
        alone(b, 0, 0, 0);
        for (int p = 0; p < 12; p++) {
            died(b, 0, p);
            b.paper(Check.HEIR, 0, 0, p, p + 1, 0);
        }
        who("the twelfth heir", b, 0, "12", 10);
        died(b, 5, 12);
        b.paper(Check.HEIR, 0, 0, 12, 13, 0);
        who("no thirteenth", b, 0, "12 -4", 4, 5);
    }

    private static DioceseBook plural(int x, int worthA, int worthB) {
        DioceseBook b = new DioceseBook();
        b.person(0);
        b.living(0, 0, worthA);
        b.living(x, -10, worthB);
        b.living(0, 0, 0);
        b.go(100);
        b.paper(Check.LEAVE, 20, 0, 0, 0, 0);
        return b;
    }

    private static void both(String what, DioceseBook b, int second, String want) {
        in(b, 10, 0, 0, -4);
        in(b, second, 1, 0, -4);
        C.row(what, want, b.seat(0, second, 100, 0), b.seat(0, second, 100, 3), b.seat(0, second, 100, 4),
            b.seat(1, second, 100, 0));
    }

    private static void twoLivings() {
        both("by leave", plural(20, 100, 100), 20, "1 -1 -1 1");
        both("leave comes too late", plural(20, 100, 100), 19, "0 19 3 1");
        both("too far", plural(21, 0, 0), 20, "0 20 3 1");
        both("the first is too rich", plural(0, 101, 0), 20, "0 20 3 1");
        both("the second is too rich", plural(0, 0, 101), 20, "0 20 3 1");
    }

    private static void twoLivingsByCanons() {
        DioceseBook b = plural(21, 101, 102);
        Check.canon(b, 30, "let miles 31;let worth 102;");
        both("not yet", b, 29, "0 29 3 1");
        DioceseBook c = plural(21, 101, 102);
        Check.canon(c, 30, "let miles 31;let worth 102;");
        both("by the canons of the day", c, 30, "1 -1 -1 1");
        c.set(0, 1, 103);
        C.row("by what it is worth now", "103 0", c.set(0, 1, 103), c.seat(0, 30, 100, 0));
        c.set(0, 1, 102);
        C.due("and again", c.seat(0, 30, 100, 0), 1);
    }

    private static void threeLivings() {
        DioceseBook b = Check.with(1, 4);
        b.go(100);
        b.paper(Check.LEAVE, 0, 0, 0, 0, 0);
        in(b, 10, 2, 0, -4);
        in(b, 11, 1, 0, -4);
        in(b, 12, 3, 0, -4);
        C.row("holds on to the last", "0 1 0 1", b.seat(0, 12, 100, 0), b.seat(1, 12, 100, 0), b.seat(2, 12, 100, 0),
            b.seat(3, 12, 100, 0));
        b.set(0, 1, 101);
        C.row("to none where not to the last", "0 0 0 1", b.seat(0, 12, 100, 0), b.seat(1, 12, 100, 0),
            b.seat(2, 12, 100, 0), b.seat(3, 12, 100, 0));
        b.set(0, 1, 10);
        in(b, 13, 1, 0, -4);
        in(b, 14, 0, 0, -4);
        C.row("in once more is no later", "1 0 0 1", b.seat(0, 14, 100, 0), b.seat(1, 14, 100, 0),
            b.seat(2, 14, 100, 0), b.seat(3, 14, 100, 0));
    }

    private static void asKnown() {
        DioceseBook b = at(10, 3, 2);
        alone(b, 0, 0, 0);
        b.go(10);
        in(b, 5, 0, 1, 0);
        b.go(10);
        b.paper(Check.VOID, 25, 0, 0, 0, 1);
        in(b, 5, 0, 2, 0);
        b.go(10);
        b.paper(Check.VOID, 35, 0, 0, 0, 2);
        C.row("who had it on day 5", "-1 -1 1 2 1", b.seat(0, 5, 9, 1), b.seat(0, 5, 10, 1), b.seat(0, 5, 20, 1),
            b.seat(0, 5, 30, 1), b.seat(0, 5, 40, 1));
        C.row("who had the right", "-4 0 -1", b.seat(0, 5, 9, 5), b.seat(0, 5, 19, 5), b.seat(0, 5, 20, 5));
        C.row("good", "-100003 1 -100003 1 1", b.good(1, 19), b.good(1, 20), b.good(1, 30), b.good(1, 40),
            b.good(3, 30));
        C.row("and another one", "9 0", b.why(3, 40), b.why(3, 39));
    }

    private static void promise17Refusals() {
        DioceseBook b = at(10, 1, 1);
        C.row("seat", "-100001 -100001 -100002 -100002 -100002 -100002 -100002 -100002 -100001",
            b.seat(1, 0, 0, 0), b.seat(-1, 0, 0, 0), b.seat(0, -1, 0, 0), b.seat(0, 30001, 0, 0), b.seat(0, 0, -1, 0),
            b.seat(0, 0, 11, 0), b.seat(0, 0, 0, -1), b.seat(0, 0, 0, 8), b.seat(1, -1, -1, -1));
    }

    private static void promise18And19() {
        DioceseBook b = at(1000, 6, 4);
        alone(b, 0, 0, 0);
        C.due("good", b.good(in(b, 10, 0, 1, 0), 1000), 1);
        C.due("why of a good one", b.why(1, 1000), 0);
        C.due("no IN", b.good(0, 1000), Check.NOT);
        C.due("why of no IN", b.why(0, 1000), Check.NOT);
        C.row("refused", "-100001 -100001 -100002 -100002 -100001", b.good(2, 0), b.good(-1, 0), b.good(0, -1),
            b.good(0, 1001), b.good(2, -1));
        C.row("why refused", "-100001 -100001 -100002 -100002 -100001", b.why(2, 0), b.why(-1, 0), b.why(0, -1),
            b.why(0, 1001), b.why(2, -1));
        C.row("not told by then", "-100003 -100003", b.good(1, 999), b.why(1, 999));
        C.due("dead", b.why(in(b, 30, 1, 2, -4), 1000), 0);
        died(b, 31, 2);
        C.due("died later", b.why(2, 1000), 0);
        died(b, 30, 2);
        C.due("died that day", b.why(2, 1000), 2);
        C.due("not good", b.good(2, 1000), 0);
        Check.canon(b, 40, "bar rich=10;");
        C.due("barred", b.why(in(b, 40, 2, 3, -4), 1000), 4);
        C.due("not barred the day before", b.why(in(b, 39, 3, 3, -4), 1000), 0);
        C.due("another one", b.why(in(b, 5, 3, 4, -2), 1000), 8);
    }

    private static void reasonsTogether() {
        DioceseBook b = at(1000, 6, 1);
        Check.canon(b, 0, "bar rich>0;");
        int first = in(b, 10, 0, 1, -3);
        died(b, 0, 1);
        C.due("three reasons", b.why(first, 1000), 2 + 4 + 8);
        b.set(0, 0, 0);
        C.due("two reasons", b.why(first, 1000), 2 + 8);
        int second = in(b, 11, 0, 2, -4);
        C.due("held: nobody may", b.why(second, 1000), 1 + 8);
        b.set(0, 0, 1);
        C.due("held and barred", b.why(second, 1000), 1 + 4 + 8);
        died(b, 11, 2);
        C.due("all", b.why(second, 1000), 15);
    }

    private static void barredByHoldersThen() {
        DioceseBook b = at(1000, 6, 3);
        Check.canon(b, 0, "bar holds>0;");
        b.paper(Check.LEAVE, 0, 0, 0, 0, 0);
        int first = in(b, 10, 0, 0, -4);
        int second = in(b, 20, 1, 0, -4);
        int again = in(b, 30, 1, 0, -4);
        C.row("by those it held then", "0 4 13", b.why(first, 1000), b.why(second, 1000), b.why(again, 1000));
        out(b, 15, 0, 0);
        C.row("not if it was out", "0 0 9", b.why(first, 1000), b.why(second, 1000), b.why(again, 1000));
    }

    private static void change(String what, DioceseBook b, int l, int known, String want) {
        StringBuilder rows = new StringBuilder();
        int i = 0;
        while (b.change(l, known, i, 0) != Check.NONE) {
            rows.append(b.change(l, known, i, 0)).append(':').append(b.change(l, known, i, 1)).append(':')
                .append(b.change(l, known, i, 2)).append(' ');
            i++;
        }
        C.due(what + ": " + rows + "for " + want, rows.toString().trim().equals(want) ? 1 : 0, 1);
    }

    private static void promise20() {
        DioceseBook b = at(100, 4, 3);
        in(b, 50, 0, 0, -4);
        in(b, 40, 0, 1, -4);
        in(b, 45, 0, 1, -4);
        out(b, 60, 0, 2);
        in(b, 60, 1, 0, -4);
        died(b, 70, 0);
        died(b, 70, 1);
        change("of 0", b, 0, 100, "40:1:1 50:2:0 60:1:4 70:0:6");
        change("of 1", b, 1, 100, "60:1:4 70:0:5");
        change("of 2", b, 2, 100, "");
        b.go(1);
        b.paper(Check.VOID, 0, 0, 0, 0, 1);
        change("as known then", b, 0, 100, "40:1:1 50:2:0 60:1:4 70:0:6");
        change("as known now", b, 0, 101, "45:1:2 50:2:0 60:1:4 70:0:6");
        change("as known ahead", b, 0, 99, "");
        C.row("none such", "-1 -1 -1 -1", b.change(0, 100, 4, 0), b.change(0, 100, 4, 2), b.change(0, 100, -1, 1),
            b.change(0, 100, Integer.MAX_VALUE, 0));
        C.row("refused", "-100001 -100001 -100002 -100002 -100002 -100002 -100001", b.change(3, 0, 0, 0),
            b.change(-1, 0, 0, 0), b.change(0, -1, 0, 0), b.change(0, 102, 0, 0), b.change(0, 0, 0, -1),
            b.change(0, 0, 0, 3), b.change(3, -1, 9, 9));
    }

    private static void days(String what, DioceseBook b, int from, int to, String want) {
        int now = b.count(0);
        C.row(what, want, b.days(0, from, to, now, 0), b.days(0, from, to, now, 1), b.days(0, from, to, now, 2));
    }

    private static void promise21() {
        DioceseBook b = at(100, 4, 3);
        days("all empty", b, 0, 5000, "5001 0 0");
        in(b, 10, 0, 0, -4);
        in(b, 20, 0, 1, -4);
        out(b, 30, 0, 0);
        out(b, 40, 0, 1);
        in(b, 40, 0, 2, -4);
        in(b, 40, 0, 3, -4);
        out(b, 50, 0, 2);
        out(b, 50, 0, 3);
        days("all", b, 0, 99, "60 20 20");
        days("a day", b, 9, 9, "1 0 0");
        days("the day of the in", b, 10, 10, "0 1 0");
        days("the last one held", b, 19, 20, "0 1 1");
        days("changes of a day", b, 40, 40, "0 0 1");
        days("the end", b, 49, 5049, "5000 0 1");
        days("far on", b, 25000, 30000, "5001 0 0");
        C.row("as known", "101 51", b.days(0, 0, 100, 99, 0), b.days(0, 50, 100, 100, 0));
        C.row("refused", "-100001 -100001 -100002 -100002 -100002 -100002 -100002 -100002 -100002 -100002 -100002",
            b.days(3, 0, 0, 0, 0), b.days(-1, 9, 0, 0, 0), b.days(0, -1, 0, 0, 0), b.days(0, 30000, 30001, 0, 0),
            b.days(0, 1, 0, 0, 0), b.days(0, 0, 5001, 0, 0), b.days(0, 0, 0, -1, 0), b.days(0, 0, 0, 101, 0),
            b.days(0, 0, 0, 0, -1), b.days(0, 0, 0, 0, 3), b.days(0, Integer.MIN_VALUE, Integer.MAX_VALUE, 0, 0));
    }

    private static void promise22() {
        DioceseBook b = at(10, 4, 4);
        in(b, 5, 0, 0, -4);
        b.go(10);
        in(b, 5, 1, 1, -4);
        b.paper(Check.VOID, 5, 0, 0, 0, 0);
        in(b, 6, 0, 2, -4);
        alone(b, 5, 3, 3);
        b.go(10);
        in(b, 6, 1, 2, -4);
        C.row("on day 5", "0 2 2 0 0 1", b.news(5, 10, 10), b.news(5, 10, 20), b.news(5, 20, 10), b.news(5, 20, 30),
            b.news(4, 10, 20), b.news(5, 0, 10));
        C.row("on day 6", "2 2 2", b.news(6, 10, 20), b.news(6, 20, 30), b.news(30000, 10, 30));
        C.row("refused", "-100002 -100002 -100002 -100002 -100002 -100002", b.news(-1, 0, 0), b.news(30001, 0, 0),
            b.news(0, -1, 0), b.news(0, 31, 0), b.news(0, 0, -1), b.news(0, 0, 31));
        DioceseBook c = at(10, 4, 1);
        in(c, 5, 0, 0, -4);
        in(c, 6, 0, 1, -4);
        c.go(1);
        in(c, 3, 0, 1, -4);
        C.row("the same holders in another order", "0 0 1", c.news(6, 10, 11), c.news(7, 10, 11), c.news(5, 10, 11));
    }
}
