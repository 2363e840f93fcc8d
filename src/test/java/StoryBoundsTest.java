/** Sentence by sentence, where a boundary is named: section 3 and promises 17 to 22. */
public final class StoryBoundsTest {
    private static final Sentences S = new Sentences();

    public static void main(String[] args) {
        noneAtFirst();
        rights();
        whoIfNotEmpty();
        monthsOfLapse();
        countedFrom();
        canonsOfThatDay();
        soldTurns();
        heirs();
        twelveHeirs();
        good();
        turnsUsed();
        turnsUsedByLapse();
        otherLivings();
        leaveMilesWorth();
        falls();
        nothingNew();
        emptyHeldClaimed();
        promise17();
        promise18();
        promise19();
        promise20();
        promise21();
        promise22();
        S.end();
    }

    private static void noneAtFirst() {
        S.sentence("HOLDERS of a LIVING are PERSONS: none at first; it is EMPTY then, from DAY 0 on, by CAUSE 0.");
        DioceseBook b = Sentences.book("go 9", "person 0", "living 0 0 0", "paper IN 9 0 0 CROWN 0");
        S.asks(b, "seat 0 0 9 0 -> 0", "seat 0 0 9 1 -> NONE", "seat 0 0 9 2 -> 0", "seat 0 0 9 3 -> 0",
            "seat 0 0 9 4 -> 0", "seat 0 8 9 3 -> 0", "seat 0 8 9 4 -> 0", "seat 0 9 9 3 -> NONE", "seat 0 9 9 4 -> NONE",
            "seat 0 30000 8 3 -> 0", "change 0 8 0 0 -> NONE");
    }

    private static void rights() {
        S.sentence("The RIGHT of a LIVING: a row of one or two PERSONS, at first none; TURN: whose it is (the first "
            + "one's at first, and whenever the RIGHT is told anew). SOLD turns as they are told.");
        DioceseBook b = Sentences.book("4 x person 0", "living 0 0 0", "go 20", "paper SHARED 5 0 1 2 0",
            "paper NEXT 6 0 2 3 0", "paper IN 7 0 0 1 0", "paper SHARED 8 0 1 2 0", "paper SHARED 9 0 2 1 0",
            "paper ALONE 10 0 3 0 0");
        S.asks(b, "seat 0 4 20 6 -> NONE", "seat 0 4 20 5 -> CROWN", "seat 0 5 20 6 -> 1", "seat 0 5 20 7 -> 0",
            "seat 0 6 20 6 -> 1", "seat 0 6 20 7 -> 1", "seat 0 7 20 6 -> 2", "seat 0 8 20 6 -> 1", "seat 0 9 20 6 -> 2",
            "seat 0 10 20 6 -> 3", "seat 0 10 20 7 -> 1", "seat 0 5 19 6 -> NONE", "go 1", "paper VOID 21 0 0 0 5",
            "seat 0 10 21 6 -> 2", "seat 0 10 20 6 -> 3");
    }

    private static void whoIfNotEmpty() {
        S.sentence("WHO may present on a DAY: nobody (NONE), if it is not EMPTY.");
        DioceseBook b = Sentences.book("2 x person 0", "living 0 0 0", "go 9", "paper IN 5 0 0 CROWN 0",
            "paper IN 6 0 1 CROWN 0", "paper OUT 7 0 0 0 0", "paper OUT 8 0 1 0 0");
        S.asks(b, "seat 0 4 9 5 -> CROWN", "seat 0 5 9 5 -> NONE", "seat 0 6 9 5 -> NONE", "seat 0 7 9 5 -> NONE",
            "seat 0 8 9 5 -> CROWN");
    }

    private static void who(DioceseBook b, int day, int want) {
        S.asks(b, "seat 0 " + day + " " + b.count(0) + " 5 -> " + want);
    }

    private static void monthsOfLapse() {
        S.sentence("up to L MONTHS (less than 30 L DAYS) THE PATRON; less than twice as many THE BISHOP, than three "
            + "times THE PRIMATE, then THE CROWN; L 0: THE PATRON for ever.");
        for (int months : new int[] {1, 6, 24}) {
            DioceseBook b = Sentences.book("person 0", "living 0 0 0", "paper ALONE 0 0 0 0 0",
                "law 0 let lapse " + months + ";");
            int term = 30 * months;
            who(b, 0, 0);
            who(b, term - 1, 0);
            who(b, term, -2);
            who(b, 2 * term - 1, -2);
            who(b, 2 * term, -3);
            who(b, 3 * term - 1, -3);
            who(b, 3 * term, -4);
            who(b, 30000, -4);
        }
        DioceseBook never = Sentences.book("person 0", "living 0 0 0", "paper ALONE 0 0 0 0 0", "law 0 let lapse 0;");
        who(never, 0, 0);
        who(never, 30, 0);
        who(never, 30000, 0);
        DioceseBook late = Sentences.book("2 x person 0", "living 0 0 0", "paper ALONE 0 0 1 0 0", "until 30000",
            "paper IN 10 0 0 1 0", "paper DIED 29821 0 0 0 0");
        who(late, 30000, 1);
        S.asks(late, "paper DIED 29820 0 0 0 0");
        who(late, 30000, -2);
    }

    private static void countedFrom() {
        S.sentence("Else count from the DAY on which it fell EMPTY (CAUSE 2, by OUT: from the first NOTICE done on or "
            + "after that DAY; without one nothing lapses)");
        DioceseBook b = Sentences.book("3 x person 0", "2 x living 0 0 0", "paper ALONE 0 0 1 0 0", "until 9000",
            "paper IN 10 0 0 1 0", "paper OUT 1000 0 0 0 0", "paper NOTICE 999 0 0 0 0", "paper NOTICE 1000 1 0 0 0");
        who(b, 1000, 1);
        who(b, 30000, 1);
        S.asks(b, "paper NOTICE 2000 0 0 0 0 -> 5");
        who(b, 1999, 1);
        who(b, 2179, 1);
        who(b, 2180, -2);
        S.asks(b, "paper NOTICE 1001 0 0 0 0 -> 6");
        who(b, 1180, 1);
        who(b, 1181, -2);
        S.asks(b, "paper NOTICE 1000 0 0 0 0 -> 7");
        who(b, 1179, 1);
        who(b, 1180, -2);
        who(b, 1360, -3);
        who(b, 1540, -4);
        S.asks(b, "paper VOID 9000 0 0 0 7", "paper VOID 9000 0 0 0 6", "paper VOID 9000 0 0 0 5");
        who(b, 30000, 1);
        DioceseBook ahead = Sentences.book("3 x person 0", "living 0 0 0", "until 9000", "paper NOTICE 1000 0 0 0 0",
            "paper IN 1000 0 0 CROWN 0", "paper OUT 1000 0 0 0 0");
        who(ahead, 1179, -4);
        who(ahead, 1180, -2);
        DioceseBook full = Sentences.book("2 x person 0", "living 0 0 0", "until 9000", "paper IN 0 0 0 CROWN 0",
            "paper OUT 10 0 0 0 0", "147 x paper ALONE 0 0 1 0 0");
        who(full, 30000, 1);
        S.asks(full, "paper ALONE 0 0 1 0 0 -> 149");
        who(full, 30000, 1);
        DioceseBook voided = Sentences.book("2 x person 0", "living 0 0 0", "until 9000", "paper ALONE 0 0 1 0 0",
            "paper IN 1 0 0 CROWN 0", "paper OUT 10 0 0 0 0", "paper NOTICE 11 0 0 0 0");
        who(voided, 191, -2);
        S.asks(voided, "go 1", "paper VOID 0 0 0 0 3");
        who(voided, 191, 1);
        S.asks(voided, "seat 0 191 9000 5 -> BISHOP", "seat 0 191 9001 5 -> 1");
        DioceseBook died = Sentences.book("3 x person 0", "2 x living 0 0 0", "paper ALONE 0 0 1 0 0", "until 9000",
            "paper IN 10 0 0 1 0", "paper DIED 1000 0 0 0 0", "paper NOTICE 1100 0 0 0 0");
        who(died, 1179, 1);
        who(died, 1180, -2);
        DioceseBook ceded = Sentences.book("3 x person 0", "2 x living 0 0 0", "paper ALONE 0 0 1 0 0", "until 9000",
            "paper IN 10 0 0 1 0", "paper IN 1000 1 0 CROWN 0", "paper NOTICE 1100 0 0 0 0");
        who(ceded, 1179, 1);
        who(ceded, 1180, -2);
    }

    private static void canonsOfThatDay() {
        S.sentence("with L MONTHS of lapse by the CANONS of the DAY on which it fell EMPTY");
        DioceseBook b = Sentences.book("3 x person 0", "2 x living 0 0 0", "paper ALONE 0 0 1 0 0", "until 9000",
            "paper IN 10 0 0 1 0", "paper DIED 1000 0 0 0 0", "law 1001 let lapse 1;");
        who(b, 1179, 1);
        who(b, 1180, -2);
        S.asks(b, "law 1000 let lapse 2; -> 1");
        who(b, 1059, 1);
        who(b, 1060, -2);
        S.asks(b, "law 1001 strike 1; -> 2");
        who(b, 1060, -2);
        S.asks(b, "law 1000 strike 1; -> 3");
        who(b, 1060, 1);
        who(b, 1180, -2);
    }

    private static void soldTurns() {
        S.sentence("THE PATRON: whose TURN it is, or, if one of its next turns is SOLD and not used, the buyer of the "
            + "first of these");
        DioceseBook b = Sentences.book("6 x person 0", "2 x living 0 0 0", "go 90", "paper SHARED 0 0 0 1 0",
            "paper NEXT 6 0 0 3 0", "paper NEXT 5 0 0 2 0", "paper NEXT 5 1 0 4 0", "paper NEXT 5 0 1 4 0",
            "paper IN 10 0 5 2 0", "paper OUT 11 0 5 0 0", "paper IN 12 0 5 4 0", "paper OUT 13 0 5 0 0",
            "paper IN 14 0 5 3 0", "paper OUT 15 0 5 0 0", "paper IN 16 0 5 1 0", "paper OUT 17 0 5 0 0");
        S.asks(b, "seat 0 4 90 5 -> 0", "seat 0 4 90 7 -> 0", "seat 0 5 90 5 -> 2", "seat 0 5 90 7 -> 2",
            "seat 0 6 90 5 -> 2", "seat 0 6 90 7 -> 3", "seat 0 9 90 6 -> 0", "seat 0 10 90 7 -> 2",
            "seat 0 10 90 6 -> 1", "seat 0 11 90 5 -> 4", "seat 0 12 90 7 -> 1", "seat 0 13 90 5 -> 3",
            "seat 0 14 90 7 -> 0", "seat 0 15 90 5 -> 1", "seat 0 17 90 5 -> 0", "seat 1 17 90 7 -> 1",
            "seat 1 17 90 5 -> CROWN");
    }

    private static void heirs() {
        S.sentence("if that PERSON DIED by that DAY, the HEIR by the last such PAPER in THE BOOK done by that DAY, and "
            + "so on (12 at most); without one, or without a RIGHT: THE CROWN.");
        DioceseBook b = Sentences.book("5 x person 0", "2 x living 0 0 0", "go 90", "paper ALONE 0 0 0 0 0",
            "paper DIED 10 0 0 0 0", "paper HEIR 20 0 0 1 0", "paper HEIR 19 0 0 2 0", "paper HEIR 20 0 0 3 0");
        who(b, 9, 0);
        who(b, 10, -4);
        who(b, 18, -4);
        who(b, 19, 2);
        who(b, 20, 3);
        S.asks(b, "paper VOID 90 0 0 0 4 -> 5");
        who(b, 20, 1);
        S.asks(b, "paper DIED 20 0 1 0 0 -> 6");
        who(b, 19, 2);
        who(b, 20, -4);
        S.asks(b, "paper HEIR 0 0 1 4 0 -> 7");
        who(b, 20, 4);
        S.asks(b, "seat 1 20 90 5 -> CROWN");
    }

    /** The n-th PERSON is the heir of the one ahead of it; so many of them are dead. */
    private static DioceseBook line(int dead) {
        DioceseBook b = Sentences.book("15 x person 0", "living 0 0 0", "paper ALONE 0 0 0 0 0");
        for (int p = 0; p < dead; p++) {
            S.asks(b, "paper DIED 0 0 " + p + " 0 0", "paper HEIR 0 0 " + p + " " + (p + 1) + " 0");
        }
        return b;
    }

    private static void twelveHeirs() {
        S.sentence("and so on (12 at most)");
        who(line(0), 0, 0);
        who(line(1), 0, 1);
        who(line(11), 0, 11);
        who(line(12), 0, 12);
        who(line(13), 0, -4);
        DioceseBook round = line(1);
        S.asks(round, "paper DIED 0 0 1 0 0", "paper HEIR 0 0 1 0 0");
        who(round, 0, -4);
    }

    private static void good() {
        S.sentence("IN: it is GOOD, if the LIVING is EMPTY, the PERSON has not DIED by that DAY and is not BARRED "
            + "(holds, far by HOLDERS then), and q is WHO may present.");
        S.asks(Sentences.book("2 x person 0", "living 0 0 0", "go 9", "paper IN 5 0 0 CROWN 0", "paper IN 5 0 1 CROWN 0"),
            "good 0 9 -> 1", "good 1 9 -> 0", "paper OUT 5 0 0 0 0 -> 2", "good 1 9 -> 0", "paper IN 5 0 1 CROWN 0 -> 3",
            "good 3 9 -> 0", "paper OUT 5 0 1 0 0 -> 4", "paper IN 5 0 1 CROWN 0 -> 5", "good 5 9 -> 1");
        S.asks(Sentences.book("2 x person 0", "living 0 0 0", "go 9", "paper IN 5 0 0 CROWN 0", "paper DIED 6 0 0 0 0"),
            "good 0 9 -> 1", "paper DIED 5 0 0 0 0", "good 0 9 -> 0", "why 0 9 -> 2");
        S.asks(Sentences.book("person 0", "living 0 0 5", "go 9", "paper IN 5 0 0 CROWN 0", "law 6 bar rich=5;"),
            "good 0 9 -> 1", "law 5 bar rich=5;", "good 0 9 -> 0", "why 0 9 -> 4", "set 0 0 6 -> 5", "good 0 9 -> 1");
        S.asks(Sentences.book("person 0", "2 x living 0 0 0", "go 9", "paper IN 5 0 0 CROWN 0", "paper IN 5 1 0 CROWN 0",
            "paper IN 6 0 0 CROWN 0", "law 0 bar holds=1;"), "good 0 9 -> 1", "why 1 9 -> 4", "why 2 9 -> 4");
        S.asks(Sentences.book("3 x person 0", "living 0 0 0", "go 200", "paper ALONE 0 0 1 0 0", "paper IN 179 0 0 1 0"),
            "good 1 200 -> 1", "paper VOID 200 0 0 0 1", "paper IN 180 0 0 1 0 -> 3", "why 3 200 -> 8",
            "paper VOID 200 0 0 0 3", "paper IN 180 0 0 BISHOP 0 -> 5", "good 5 200 -> 1", "paper VOID 200 0 0 0 5",
            "paper IN 179 0 0 BISHOP 0 -> 7", "why 7 200 -> 8");
        S.sentence("Good or not, p is a HOLDER of it.");
        S.asks(Sentences.book("2 x person 0", "living 0 0 0", "go 9", "paper IN 5 0 0 PRIMATE 0",
            "paper IN 6 0 1 PRIMATE 0"), "good 0 9 -> 0", "good 1 9 -> 0", "seat 0 4 9 0 -> 0", "seat 0 5 9 2 -> 1",
            "seat 0 6 9 2 -> 3");
    }

    private static void turnsUsed() {
        S.sentence("If it is GOOD, or void is 1 by the CANONS of that DAY, and q is THE PATRON (whatever lapsed), its "
            + "TURN is USED: a SOLD one is, and the other one of two has the TURN next");
        String[] start = {"4 x person 0", "living 0 0 0", "until 400", "paper SHARED 0 0 0 1 0"};
        DioceseBook b = Sentences.book(start);
        S.asks(b, "paper IN 10 0 2 0 0 -> 1", "seat 0 9 400 6 -> 0", "seat 0 10 400 6 -> 1", "paper IN 11 0 3 1 0 -> 2",
            "seat 0 11 400 6 -> 1", "law 12 let void 1; -> 0", "seat 0 11 400 6 -> 1", "law 11 let void 1; -> 1",
            "seat 0 11 400 6 -> 0", "law 11 let void 0; -> 2", "seat 0 11 400 6 -> 1");
        DioceseBook lapsed = Sentences.book(start);
        S.asks(lapsed, "paper IN 180 0 2 0 0 -> 1", "why 1 400 -> 8", "seat 0 180 400 6 -> 0", "law 0 let void 1;",
            "seat 0 179 400 6 -> 0", "seat 0 180 400 6 -> 1");
        DioceseBook sold = Sentences.book(start);
        S.asks(sold, "paper NEXT 0 0 0 3 0 -> 1", "paper IN 10 0 2 0 0 -> 2", "why 2 400 -> 8", "seat 0 10 400 6 -> 0",
            "seat 0 10 400 7 -> 1", "paper VOID 400 0 0 0 2", "paper IN 10 0 2 3 0 -> 4", "good 4 400 -> 1",
            "seat 0 10 400 6 -> 1", "seat 0 10 400 7 -> 0");
        DioceseBook alone = Sentences.book("3 x person 0", "living 0 0 0", "go 20", "paper ALONE 0 0 0 0 0",
            "paper NEXT 0 0 0 1 0", "paper IN 5 0 2 1 0", "paper OUT 6 0 2 0 0");
        S.asks(alone, "seat 0 4 20 7 -> 1", "seat 0 5 20 7 -> 0", "seat 0 5 20 6 -> 0", "seat 0 6 20 5 -> 0");
        DioceseBook none = Sentences.book("3 x person 0", "living 0 0 0", "paper IN 0 0 0 CROWN 0");
        S.asks(none, "good 0 0 -> 1", "seat 0 0 0 6 -> NONE");
    }

    private static void turnsUsedByLapse() {
        S.sentence("if it is GOOD, has lapsed and lapsed is 1, likewise.");
        for (int day : new int[] {180, 360, 540}) {
            String q = day == 180 ? "BISHOP" : day == 360 ? "PRIMATE" : "CROWN";
            DioceseBook b = Sentences.book("4 x person 0", "living 0 0 0", "until 600", "paper SHARED 0 0 0 1 0",
                "paper NEXT 0 0 0 3 0", "paper IN " + day + " 0 2 " + q + " 0");
            String turn = "seat 0 " + day + " 600 ";
            S.asks(b, "good 2 600 -> 1", turn + "6 -> 0", turn + "7 -> 1", "law " + (day + 1) + " let lapsed 1;",
                turn + "6 -> 0", "law " + day + " let lapsed 1;", turn + "6 -> 1", turn + "7 -> 0",
                    "law " + day + " let lapsed 0;", turn + "6 -> 0");
        }
        DioceseBook unlapsed = Sentences.book("3 x person 0", "living 0 0 0", "until 600", "paper SHARED 0 0 0 1 0",
            "law 0 let lapsed 1;", "paper IN 179 0 2 BISHOP 0");
        S.asks(unlapsed, "why 1 600 -> 8", "seat 0 179 600 6 -> 0");
        DioceseBook once = Sentences.book("3 x person 0", "living 0 0 0", "until 600", "paper SHARED 0 0 0 1 0",
            "law 0 let lapsed 1;", "paper DIED 0 0 0 0 0", "paper IN 540 0 2 CROWN 0");
        S.asks(once, "good 2 600 -> 1", "seat 0 540 600 6 -> 1");
    }

    private static void otherLivings() {
        S.sentence("of other LIVINGS that p holds it holds on to one alone, that of which it became HOLDER last");
        DioceseBook b = Sentences.book("person 0", "4 x living 0 0 0", "go 90", "paper LEAVE 0 0 0 0 0",
            "paper IN 10 3 0 CROWN 0", "paper IN 10 1 0 CROWN 0", "paper IN 10 2 0 CROWN 0", "paper IN 20 0 0 CROWN 0");
        S.asks(b, "seat 3 9 90 0 -> 0", "seat 3 10 90 0 -> 0", "seat 1 10 90 0 -> 1", "seat 2 10 90 0 -> 1",
            "seat 1 19 90 0 -> 1", "seat 1 20 90 0 -> 0", "seat 1 20 90 3 -> 20", "seat 1 20 90 4 -> 3",
            "seat 2 20 90 0 -> 1", "seat 0 20 90 0 -> 1", "seat 3 20 90 3 -> 10", "seat 3 20 90 4 -> 3");
        S.sentence("from the others it is out by CAUSE 3.");
        DioceseBook c = Sentences.book("2 x person 0", "3 x living 0 0 0", "go 90", "paper IN 10 0 0 CROWN 0",
            "paper IN 11 0 1 CROWN 0", "paper IN 12 1 0 CROWN 0");
        S.asks(c, "seat 0 11 90 0 -> 2", "seat 0 12 90 0 -> 1", "seat 0 12 90 1 -> 1", "seat 0 12 90 4 -> NONE",
            "change 0 90 2 0 -> 12", "change 0 90 2 1 -> 1", "change 0 90 2 2 -> 2", "change 0 90 3 0 -> NONE",
            "change 1 90 0 1 -> 1", "change 1 90 1 0 -> NONE");
    }

    /** Whether PERSON 0, in LIVING 0 from DAY 10 on, is in it still when it comes into LIVING 1 on DAY 20. */
    private static void both(String what, int want, String... calls) {
        DioceseBook b = Sentences.book("person 0", "living 0 0 100", "living 20 -10 100", "go 90",
            "paper IN 10 0 0 CROWN 0", "paper IN 20 1 0 CROWN 0");
        S.asks(b, calls);
        S.asks(b, "seat 0 20 90 0 -> " + want, "seat 1 20 90 0 -> 1");
    }

    private static void leaveMilesWorth() {
        S.sentence("and this just if it has a LEAVE by that DAY, MILES between both are not above miles, and neither "
            + "has a WORTH above worth (CANONS of that DAY)");
        both("no leave", 0);
        both("on that day", 1, "paper LEAVE 20 0 0 0 0");
        both("a day later", 0, "paper LEAVE 21 0 0 0 0");
        both("miles less", 0, "paper LEAVE 0 0 0 0 0", "law 0 let miles 29;");
        both("miles less too late", 1, "paper LEAVE 0 0 0 0 0", "law 21 let miles 29;");
        both("miles less that day", 0, "paper LEAVE 0 0 0 0 0", "law 20 let miles 29;");
        both("as rich", 1, "paper LEAVE 0 0 0 0 0", "set 0 0 100", "set 0 1 100");
        both("the other one richer", 0, "paper LEAVE 0 0 0 0 0", "set 0 0 101");
        both("this one richer", 0, "paper LEAVE 0 0 0 0 0", "set 0 1 101");
        both("worth less that day", 0, "paper LEAVE 0 0 0 0 0", "law 20 let worth 99;");
        both("worth less too late", 1, "paper LEAVE 0 0 0 0 0", "law 21 let worth 99;");
        both("worth more", 1, "paper LEAVE 0 0 0 0 0", "set 0 0 999", "set 0 1 999", "law 0 let worth 999;");
        both("worth nothing", 1, "paper LEAVE 0 0 0 0 0", "set 0 0 0", "set 0 1 0", "law 0 let worth 0;");
        DioceseBook far = Sentences.book("person 0", "living 0 0 0", "living 31 0 0", "living 30 0 0", "go 90",
            "paper LEAVE 0 0 0 0 0", "paper IN 10 0 0 CROWN 0", "paper IN 20 1 0 CROWN 0");
        S.asks(far, "seat 0 20 90 0 -> 0", "law 0 let miles 31;", "seat 0 20 90 0 -> 1");
        DioceseBook here = Sentences.book("person 0", "2 x living 5 5 0", "living 5 6 0", "go 90", "law 0 let miles 0;",
            "paper LEAVE 0 0 0 0 0", "paper IN 10 0 0 CROWN 0", "paper IN 20 1 0 CROWN 0", "paper IN 30 2 0 CROWN 0");
        S.asks(here, "seat 0 20 90 0 -> 1", "seat 1 29 90 0 -> 1", "seat 1 30 90 0 -> 0", "seat 2 30 90 0 -> 1");
    }

    private static void falls() {
        S.sentence("OUT: p is no HOLDER of l any more (CAUSE 2). DIED: of none (CAUSE 1). A LIVING that has no HOLDER "
            + "any more falls EMPTY on that DAY by that CAUSE.");
        DioceseBook b = Sentences.book("2 x person 0", "2 x living 0 0 0", "go 90", "paper LEAVE 0 0 0 0 0",
            "paper IN 10 0 0 CROWN 0", "paper IN 10 1 0 CROWN 0", "paper IN 11 1 1 CROWN 0", "paper OUT 20 1 1 0 0",
            "paper DIED 30 0 0 0 0");
        S.asks(b, "seat 1 19 90 0 -> 2", "seat 1 20 90 0 -> 1", "seat 1 20 90 3 -> NONE", "seat 0 29 90 0 -> 1",
            "seat 0 30 90 0 -> 0", "seat 0 30 90 3 -> 30", "seat 0 30 90 4 -> 1", "seat 1 30 90 0 -> 0",
            "seat 1 30 90 4 -> 1", "paper OUT 25 1 0 0 0", "seat 1 25 90 3 -> 25", "seat 1 30 90 3 -> 25",
            "seat 1 30 90 4 -> 2", "paper OUT 10 0 0 0 0", "seat 0 10 90 3 -> 10", "seat 0 10 90 4 -> 2",
            "seat 0 9 90 3 -> 0", "seat 0 9 90 4 -> 0");
    }

    private static void nothingNew() {
        S.sentence("(PAPERS that tell nothing new, as OUT of one who is not in, are read over.)");
        DioceseBook b = Sentences.book("2 x person 0", "living 0 0 0", "go 90", "paper OUT 5 0 0 0 0",
            "paper DIED 6 0 1 0 0", "paper IN 10 0 0 CROWN 0", "paper IN 15 0 0 CROWN 0", "paper OUT 20 0 0 0 0",
            "paper OUT 21 0 0 0 0", "paper DIED 22 0 0 0 0");
        S.asks(b, "seat 0 5 90 3 -> 0", "seat 0 5 90 4 -> 0", "change 0 90 0 0 -> 10", "change 0 90 1 0 -> 20",
            "change 0 90 2 0 -> NONE", "seat 0 15 90 0 -> 1", "seat 0 22 90 3 -> 20", "seat 0 22 90 4 -> 2");
    }

    private static void emptyHeldClaimed() {
        S.sentence("A LIVING on a DAY is EMPTY, HELD by one, or CLAIMED by several.");
        DioceseBook b = Sentences.book("40 x person 0", "living 0 0 0", "go 9");
        S.asks(b, "days 0 9 9 9 0 -> 1", "count 8 -> 1", "paper IN 9 0 0 CROWN 0", "days 0 9 9 9 1 -> 1", "count 8 -> 0",
            "count 9 -> 0", "paper IN 9 0 1 CROWN 0", "days 0 9 9 9 2 -> 1", "days 0 9 9 9 1 -> 0", "count 9 -> 1");
        for (int p = 2; p < 40; p++) {
            S.asks(b, "paper IN 9 0 " + p + " CROWN 0");
        }
        S.asks(b, "days 0 9 9 9 2 -> 1", "seat 0 9 9 0 -> 40", "seat 0 9 9 2 -> 2147483647", "seat 0 9 9 1 -> 0",
            "count 9 -> 1");
    }

    private static void promise17() {
        S.sentence("what = 0 how many HOLDERS, 1 the first by when they became it (NONE), 2 HOLDERS as a SET of "
            + "PERSONS (the low 31 of them), 3 since which DAY it is EMPTY (NONE), 4 by which CAUSE (NONE), 5 WHO "
            + "may present (NONE, -2 .. -4), 6 whose TURN it is (NONE), 7 next turns SOLD and not used. UNKNOWN, "
            + "OUTSIDE.");
        DioceseBook b = Sentences.book("40 x person 0", "living 0 0 0", "go 50", "paper IN 10 0 31 CROWN 0",
            "paper IN 10 0 30 CROWN 0", "paper IN 9 0 39 CROWN 0", "paper OUT 20 0 39 0 0", "paper IN 20 0 39 CROWN 0");
        S.asks(b, "seat 0 8 50 0 -> 0", "seat 0 8 50 1 -> NONE", "seat 0 9 50 1 -> 39", "seat 0 10 50 0 -> 3",
            "seat 0 10 50 1 -> 39", "seat 0 10 50 2 -> 1073741824", "seat 0 20 50 0 -> 3", "seat 0 20 50 1 -> 31",
            "seat 0 20 50 3 -> NONE", "seat 0 20 50 4 -> NONE", "seat 0 20 50 5 -> NONE", "seat 0 20 50 6 -> NONE",
            "seat 0 20 50 7 -> 0", "seat 0 8 50 3 -> 0", "seat 0 8 50 4 -> 0", "seat 0 8 50 5 -> CROWN",
            "seat 0 8 50 2 -> 0", "seat 0 9 50 2 -> 0");
        S.asks(b, "seat 1 0 0 0 -> UNKNOWN", "seat -1 0 0 0 -> UNKNOWN", "seat 0 -1 0 0 -> OUTSIDE",
            "seat 0 30001 0 0 -> OUTSIDE", "seat 0 0 -1 0 -> OUTSIDE", "seat 0 0 51 0 -> OUTSIDE",
            "seat 0 0 0 -1 -> OUTSIDE", "seat 0 0 0 8 -> OUTSIDE", "seat 1 30001 51 8 -> UNKNOWN",
            "seat 0 30000 50 7 -> 0");
    }

    private static void promise18() {
        S.sentence("Whether an IN is GOOD AS KNOWN on a DAY: 1, 0. UNKNOWN; OUTSIDE; NOT: the PAPER is none of KIND 3, "
            + "or not in THE BOOK of that DAY.");
        DioceseBook b = Sentences.book("2 x person 0", "living 0 0 0", "go 5", "paper IN 5 0 0 CROWN 0",
            "paper OUT 5 0 0 0 0", "go 2", "paper VOID 0 0 0 0 0");
        S.asks(b, "good 0 4 -> NOT", "good 0 5 -> 1", "good 0 6 -> 1", "good 0 7 -> NOT", "good 1 5 -> NOT",
            "good 2 7 -> NOT", "good 3 7 -> UNKNOWN", "good -1 7 -> UNKNOWN", "good 3 8 -> UNKNOWN",
            "good 0 8 -> OUTSIDE", "good 0 -1 -> OUTSIDE", "good 1 8 -> OUTSIDE", "good 1 -1 -> OUTSIDE");
    }

    private static void promise19() {
        S.sentence("Why an IN is not GOOD, as a SET: 1 it was not EMPTY, 2 the PERSON had DIED, 4 it was BARRED, 8 "
            + "another one might present. UNKNOWN, OUTSIDE, NOT.");
        DioceseBook b = Sentences.book("2 x person 0", "living 0 0 5", "go 9", "paper IN 5 0 0 CROWN 0",
            "paper IN 6 0 0 BISHOP 0");
        S.asks(b, "why 0 9 -> 0", "paper VOID 9 0 0 0 0", "why 1 9 -> 8", "paper DIED 6 0 0 0 0", "why 1 9 -> 10",
            "law 7 bar rich=5;", "why 1 9 -> 10", "law 6 bar rich=5;", "why 1 9 -> 14", "paper VOID 9 0 0 0 1",
            "paper IN 6 0 0 CROWN 0 -> 5", "why 5 9 -> 6");
        S.asks(b, "why 0 9 -> NOT", "why 3 9 -> NOT", "why 2 9 -> NOT", "why 6 9 -> UNKNOWN", "why -1 9 -> UNKNOWN",
            "why 5 10 -> OUTSIDE", "why 5 -1 -> OUTSIDE", "why 6 10 -> UNKNOWN", "why 3 10 -> OUTSIDE", "why 5 8 -> NOT");
        DioceseBook held = Sentences.book("2 x person 0", "living 0 0 5", "paper IN 0 0 0 CROWN 0",
            "paper IN 0 0 1 CROWN 0");
        S.due("1 of an IN into an EMPTY LIVING", held.why(0, 0) & 1, 0);
        S.due("1 of an IN into one that is HELD", held.why(1, 0) & 1, 1);
    }

    private static void promise20() {
        S.sentence("The i-th change of HOLDERS of a LIVING AS KNOWN on a DAY: what = 0 its DAY, 1 how many HOLDERS "
            + "then, 2 the PAPER; NONE: there is none such. UNKNOWN, OUTSIDE.");
        DioceseBook b = Sentences.book("2 x person 0", "2 x living 0 0 0", "go 9", "paper IN 5 0 0 CROWN 0",
            "paper IN 0 0 1 CROWN 0", "paper OUT 5 0 1 0 0");
        S.asks(b, "change 0 9 0 0 -> 0", "change 0 9 0 1 -> 1", "change 0 9 0 2 -> 1", "change 0 9 1 0 -> 5",
            "change 0 9 1 1 -> 2", "change 0 9 1 2 -> 0", "change 0 9 2 0 -> 5", "change 0 9 2 1 -> 1",
            "change 0 9 2 2 -> 2", "change 0 9 3 0 -> NONE", "change 0 9 3 1 -> NONE", "change 0 9 3 2 -> NONE",
            "change 0 9 -1 0 -> NONE", "change 1 9 0 0 -> NONE", "change 0 8 0 0 -> NONE", "change 0 9 0 3 -> OUTSIDE",
            "change 0 9 0 -1 -> OUTSIDE", "change 0 9 9 3 -> OUTSIDE", "change 0 10 0 0 -> OUTSIDE",
            "change 0 -1 0 0 -> OUTSIDE", "change 2 9 0 0 -> UNKNOWN", "change -1 9 0 0 -> UNKNOWN",
            "change 2 10 0 3 -> UNKNOWN");
        DioceseBook most = Sentences.book("person 0", "living 0 0 0", "75 x paper IN 0 0 0 CROWN 0");
        S.asks(most, "change 0 0 0 1 -> 1", "change 0 0 1 1 -> NONE", "paper OUT 0 0 0 0 0", "change 0 0 1 2 -> 75",
            "change 0 0 2 2 -> NONE");
        DioceseBook full = Sentences.book("2 x person 0", "2 x living 0 0 0");
        for (int k = 0; k < 75; k++) {
            S.asks(full, "paper IN 0 0 0 CROWN 0", "paper IN 0 1 0 CROWN 0");
        }
        S.asks(full, "change 0 0 149 1 -> 0", "change 0 0 149 2 -> 149", "change 0 0 150 1 -> NONE",
            "change 1 0 148 1 -> 1", "change 1 0 149 1 -> NONE");
    }

    private static void promise21() {
        S.sentence("On how many DAYS from a to b (b not below a, 5000 apart at most) a LIVING was: what = 0 EMPTY, 1 "
            + "HELD, 2 CLAIMED, AS KNOWN on a DAY. UNKNOWN, OUTSIDE.");
        DioceseBook b = Sentences.book("2 x person 0", "living 0 0 0", "go 50", "paper IN 10 0 0 CROWN 0",
            "paper IN 20 0 1 CROWN 0", "paper OUT 30 0 0 0 0", "paper OUT 40 0 1 0 0", "paper IN 40 0 1 CROWN 0",
            "paper DIED 45 0 1 0 0");
        S.asks(b, "days 0 9 9 50 0 -> 1", "days 0 9 9 50 1 -> 0", "days 0 10 10 50 0 -> 0", "days 0 10 10 50 1 -> 1",
            "days 0 19 20 50 1 -> 1", "days 0 19 20 50 2 -> 1", "days 0 29 30 50 2 -> 1", "days 0 0 50 50 0 -> 16",
            "days 0 0 50 50 1 -> 25", "days 0 0 50 50 2 -> 10", "days 0 40 40 50 1 -> 1", "days 0 44 45 50 1 -> 1",
            "days 0 44 45 50 0 -> 1", "days 0 30000 30000 50 0 -> 1", "days 0 0 0 50 0 -> 1", "days 0 0 50 49 0 -> 51");
        S.asks(b, "days 0 0 5000 50 0 -> 4966", "days 0 0 5001 50 0 -> OUTSIDE", "days 0 25000 30000 50 0 -> 5001",
            "days 0 24999 30000 50 0 -> OUTSIDE", "days 0 10 9 50 0 -> OUTSIDE", "days 0 -1 9 50 0 -> OUTSIDE",
            "days 0 29999 30001 50 0 -> OUTSIDE", "days 0 0 9 51 0 -> OUTSIDE", "days 0 0 9 -1 0 -> OUTSIDE",
            "days 0 0 9 50 -1 -> OUTSIDE", "days 0 0 9 50 3 -> OUTSIDE", "days 1 0 9 50 0 -> UNKNOWN",
            "days -1 0 9 50 0 -> UNKNOWN", "days 1 10 9 51 3 -> UNKNOWN", "days 0 -2147483648 2147483647 50 0 -> OUTSIDE",
            "days 0 2147483647 -2147483648 50 0 -> OUTSIDE");
    }

    private static void promise22() {
        S.sentence("How many LIVINGS are otherwise (as to HOLDERS) on a DAY AS KNOWN on DAY b than AS KNOWN on a. "
            + "OUTSIDE.");
        DioceseBook b = Sentences.book("40 x person 0", "12 x living 0 0 0", "go 5", "paper IN 3 0 0 CROWN 0", "go 1",
            "paper VOID 6 0 0 0 0", "paper IN 3 0 1 CROWN 0", "paper IN 6 11 39 CROWN 0", "go 1");
        S.asks(b, "news 3 4 4 -> 0", "news 3 4 5 -> 1", "news 2 4 5 -> 0", "news 3 5 6 -> 1", "news 5 5 6 -> 1",
            "news 6 5 6 -> 2", "news 6 6 5 -> 2", "news 6 4 6 -> 2", "news 6 6 7 -> 0", "news 30000 0 7 -> 2",
            "news 0 0 7 -> 0");
        S.asks(b, "news -1 0 0 -> OUTSIDE", "news 30001 0 0 -> OUTSIDE", "news 0 -1 0 -> OUTSIDE",
            "news 0 8 0 -> OUTSIDE", "news 0 0 -1 -> OUTSIDE", "news 0 0 8 -> OUTSIDE");
        DioceseBook all = Sentences.book("12 x person 0", "12 x living 0 0 0", "go 1");
        for (int l = 0; l < 12; l++) {
            S.asks(all, "paper IN 0 " + l + " " + l + " CROWN 0");
        }
        S.asks(all, "news 0 0 1 -> 12", "news 0 1 0 -> 12", "news 0 1 1 -> 0");
    }
}
