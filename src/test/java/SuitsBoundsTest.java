/** Sentence by sentence, where a boundary is named: section 4 and promises 23 to 27. */
public final class SuitsBoundsTest {
    private static final Sentences S = new Sentences();
    private static final String[] TWO = {"2 x person 0", "2 x living 0 0 0"};

    public static void main(String[] args) {
        twentySuits();
        steps();
        appeals();
        sleeps();
        fees();
        endOfATime();
        surveys();
        rulesOfDecay();
        paidAndOwed();
        promise23();
        promise24();
        promise25();
        promise26();
        promise27();
        S.end();
    }

    private static void twentySuits() {
        S.sentence("SUITS (20 at most): a PERSON is presented on a DAY for a LIVING (at NOW, by a DAY not after it).");
        DioceseBook b = Sentences.book(TWO);
        S.asks(b, "suit 0 0 0 -> UNKNOWN", "present 0 0 1 -> OUTSIDE", "19 x present 0 0 0 -> 18",
            "suit 19 0 0 -> UNKNOWN", "go 5", "present 1 1 6 -> OUTSIDE", "present 1 1 5 -> 19", "present 1 1 5 -> FULL",
            "count 6 -> 20", "suit 19 5 1 -> 5", "suit 19 4 1 -> NONE", "suit 18 5 1 -> 0", "suit 20 0 0 -> UNKNOWN",
            "step 19 5 -> 1");
        DioceseBook last = Sentences.book(TWO);
        S.asks(last, "until 30000", "present 0 0 30000 -> 0", "present 0 0 0 -> 1", "present 0 0 -1 -> OUTSIDE",
            "present 0 0 30001 -> OUTSIDE", "suit 0 30000 1 -> 30000", "step 0 30000 -> 1");
    }

    private static void steps() {
        S.sentence("STEPS 1 to 5 follow (cited, heard, ordered, done, closed), each on a DAY not before that of the "
            + "one ahead, not after NOW.");
        DioceseBook b = Sentences.book(TWO);
        S.asks(b, "go 20", "present 0 0 10 -> 0", "step 0 9 -> OUTSIDE", "step 0 21 -> OUTSIDE", "step 0 10 -> 1",
            "step 0 9 -> OUTSIDE", "step 0 12 -> 2", "step 0 11 -> OUTSIDE", "step 0 12 -> 3", "step 0 20 -> 4",
            "step 0 19 -> OUTSIDE", "step 0 20 -> 5", "step 0 20 -> NOT", "suit 0 20 0 -> 5", "suit 0 19 0 -> 3");
    }

    private static void appeals() {
        S.sentence("An APPEAL undoes all STEPS from one on.");
        DioceseBook b = Sentences.book(TWO);
        S.asks(b, "go 20", "present 0 0 10", "step 0 11", "step 0 12", "step 0 13", "step 0 14", "step 0 15",
            "appeal 0 5 -> 4", "suit 0 20 0 -> 4", "suit 0 20 1 -> 14", "appeal 0 5 -> NOT", "appeal 0 3 -> 2",
            "suit 0 20 1 -> 12", "step 0 11 -> OUTSIDE", "step 0 12 -> 3", "appeal 0 1 -> 0", "suit 0 20 0 -> 0",
            "suit 0 20 1 -> 10", "step 0 9 -> OUTSIDE", "step 0 10 -> 1");
    }

    private static void sleeps() {
        S.sentence("On a DAY a SUIT SLEEPS, if it has fewer than five STEPS by then, and more than steps DAYS (CANONS "
            + "of that DAY; 0: never) went by since the last one (or since it was presented).");
        DioceseBook b = Sentences.book(TWO);
        S.asks(b, "go 100", "present 0 0 10", "suit 0 30000 2 -> 0", "law 50 let steps 30;", "suit 0 49 2 -> 0",
            "suit 0 50 2 -> 1", "law 0 let steps 30;", "suit 0 40 2 -> 0", "suit 0 41 2 -> 1", "suit 0 9 2 -> 0",
            "suit 0 0 2 -> 0", "step 0 45 -> 1", "suit 0 44 2 -> 1", "suit 0 45 2 -> 0", "suit 0 75 2 -> 0",
            "suit 0 76 2 -> 1", "step 0 100 -> 2", "step 0 100 -> 3", "step 0 100 -> 4", "suit 0 130 2 -> 0",
            "suit 0 131 2 -> 1", "step 0 100 -> 5", "suit 0 131 2 -> 0", "suit 0 30000 2 -> 0", "suit 0 99 2 -> 1",
            "appeal 0 5 -> 4", "suit 0 131 2 -> 1");
        DioceseBook ends = Sentences.book(TWO);
        S.asks(ends, "present 0 0 0", "law 0 let steps 1;", "suit 0 0 2 -> 0", "suit 0 1 2 -> 0", "suit 0 2 2 -> 1",
            "suit 0 30000 2 -> 1", "law 0 let steps 999;", "suit 0 999 2 -> 0", "suit 0 1000 2 -> 1",
            "law 0 let steps 0;", "suit 0 2 2 -> 0", "suit 0 30000 2 -> 0");
    }

    private static void fees() {
        S.sentence("FEES: fee by the CANONS of its DAY for each STEP that was not undone.");
        DioceseBook b = Sentences.book(TWO);
        S.asks(b, "go 100", "present 0 0 10", "law 20 let fee 999;", "suit 0 30000 3 -> 0", "step 0 19",
            "suit 0 30000 3 -> 0", "step 0 20", "suit 0 30000 3 -> 999", "step 0 20", "step 0 20", "step 0 20",
            "suit 0 30000 3 -> 3996", "appeal 0 2 -> 1", "suit 0 30000 3 -> 0", "law 19 let fee 1;",
            "suit 0 30000 3 -> 1");
    }

    private static void endOfATime() {
        S.sentence("(the last DAY, AS KNOWN, on which it fell from being HOLDER of it; NONE: it did not)");
        DioceseBook b = Sentences.book("2 x person 0", "2 x living 0 0 0", "go 100", "paper IN 0 0 0 CROWN 0");
        S.asks(b, "decay 0 0 100 0 -> NONE", "paper OUT 0 0 0 0 0", "decay 0 0 100 0 -> 0", "paper IN 10 0 0 CROWN 0",
            "decay 0 0 100 0 -> 0", "paper IN 20 0 1 CROWN 0", "paper DIED 30 0 0 0 0", "decay 0 0 100 0 -> 30",
            "decay 1 0 100 0 -> NONE", "paper OUT 40 0 0 0 0", "decay 0 0 100 0 -> 30", "paper IN 50 1 1 CROWN 0",
            "decay 1 0 100 0 -> 50", "decay 1 1 100 0 -> NONE", "go 1", "paper OUT 101 1 1 0 0",
            "decay 1 1 100 0 -> NONE", "decay 1 1 101 0 -> 101", "decay 1 1 100 0 -> NONE", "decay 1 1 101 0 -> 101");
        DioceseBook gone = Sentences.book("2 x person 0", "2 x living 0 0 0", "go 100", "paper IN 0 0 0 CROWN 0",
            "paper OUT 10 0 0 0 0", "go 1", "paper VOID 101 0 0 0 1");
        S.asks(gone, "decay 0 0 100 0 -> 10", "decay 0 0 101 0 -> NONE", "decay 0 0 100 0 -> 10",
            "decay 0 0 99 0 -> NONE");
    }

    private static void surveys() {
        S.sentence("the first two SURVEYS of it done on that DAY or up to 90 DAYS later");
        DioceseBook b = Sentences.book("2 x person 9999", "2 x living 0 0 0", "go 500", "paper IN 0 0 0 CROWN 0",
            "paper OUT 100 0 0 0 0", "paper SURVEY 99 0 0 0 9", "paper SURVEY 191 0 0 0 9", "paper SURVEY 100 1 0 0 9");
        S.asks(b, "decay 0 0 500 1 -> 0", "paper SURVEY 190 0 0 0 50 -> 5", "decay 0 0 500 1 -> 50",
            "paper SURVEY 190 0 0 0 40 -> 6", "decay 0 0 500 1 -> 40", "paper SURVEY 190 0 0 0 1 -> 7",
            "decay 0 0 500 1 -> 40", "paper SURVEY 100 0 0 0 60 -> 8", "decay 0 0 500 1 -> 50",
            "paper SURVEY 101 0 0 0 70 -> 9", "decay 0 0 500 1 -> 60", "paper SURVEY 100 0 0 0 65 -> 10",
            "decay 0 0 500 1 -> 60", "paper VOID 500 0 0 0 8", "decay 0 0 500 1 -> 65");
        DioceseBook first = Sentences.book("person 9999", "living 0 0 0", "go 500", "paper SURVEY 100 0 0 0 7",
            "paper IN 100 0 0 CROWN 0", "paper OUT 100 0 0 0 0");
        S.asks(first, "decay 0 0 500 1 -> 7");
        DioceseBook full = Sentences.book("person 9999", "living 0 0 0", "go 500", "paper IN 0 0 0 CROWN 0",
            "paper OUT 100 0 0 0 0", "147 x paper SURVEY 99 0 0 0 9", "paper SURVEY 190 0 0 0 7");
        S.asks(full, "decay 0 0 500 1 -> 7", "count 3 -> 150");
        DioceseBook gone = Sentences.book("person 9999", "living 0 0 0", "go 500", "paper IN 0 0 0 CROWN 0",
            "paper OUT 100 0 0 0 0", "paper SURVEY 100 0 0 0 9", "paper SURVEY 101 0 0 0 8", "go 1");
        S.asks(gone, "decay 0 0 500 1 -> 8", "paper VOID 0 0 0 0 3", "decay 0 0 501 1 -> 9", "decay 0 0 500 1 -> 8",
            "decay 0 0 501 1 -> 9");
        S.sentence("with one alone that; with none 0.");
        for (int rule = 0; rule <= 2; rule++) {
            DioceseBook one = Sentences.book("person 9999", "living 0 0 0", "go 500", "law 0 let decay " + rule + ";",
                "paper IN 0 0 0 CROWN 0", "paper OUT 100 0 0 0 0");
            S.asks(one, "decay 0 0 500 1 -> 0", "paper SURVEY 100 0 0 0 9999", "decay 0 0 500 1 -> 9999",
                "decay 0 0 500 2 -> 9999", "decay 0 0 500 3 -> 0");
        }
    }

    private static void rulesOfDecay() {
        S.sentence("decay 0 the lesser, 1 the greater, 2 half of both, cut (CANONS of that DAY)");
        DioceseBook b = Sentences.book("person 9999", "living 0 0 0", "go 500", "paper IN 0 0 0 CROWN 0",
            "paper OUT 100 0 0 0 0", "paper SURVEY 100 0 0 0 8", "paper SURVEY 150 0 0 0 5");
        S.asks(b, "decay 0 0 500 1 -> 5", "law 101 let decay 1;", "decay 0 0 500 1 -> 5", "law 100 let decay 1;",
            "decay 0 0 500 1 -> 8", "law 100 let decay 2;", "decay 0 0 500 1 -> 6", "law 100 let decay 0;",
            "decay 0 0 500 1 -> 5");
        DioceseBook most = Sentences.book("person 9999", "living 0 0 0", "go 500", "paper IN 0 0 0 CROWN 0",
            "paper OUT 100 0 0 0 0", "2 x paper SURVEY 100 0 0 0 9999");
        S.asks(most, "decay 0 0 500 1 -> 9999", "law 0 let decay 2;", "decay 0 0 500 1 -> 9999", "law 0 let decay 1;",
            "decay 0 0 500 1 -> 9999");
    }

    private static void paidAndOwed() {
        S.sentence("PAID is as much as ESTATE has, LIVINGS by numbers; OWED is what is left.");
        DioceseBook b = Sentences.book("2 x person 30", "3 x living 0 0 0", "go 100", "paper IN 0 2 0 CROWN 0",
            "paper IN 1 1 0 CROWN 0", "paper IN 2 0 0 CROWN 0", "paper OUT 3 0 0 0 0", "paper SURVEY 50 0 0 0 10",
            "paper SURVEY 50 1 0 0 20", "paper SURVEY 50 2 0 0 30");
        S.asks(b, "decay 0 0 100 2 -> 10", "decay 0 1 100 2 -> 20", "decay 0 2 100 2 -> 0", "decay 0 2 100 3 -> 30",
            "set 1 0 31", "decay 0 2 100 2 -> 1", "decay 0 2 100 3 -> 29", "set 1 0 29", "decay 0 1 100 2 -> 19",
            "decay 0 1 100 3 -> 1", "decay 0 2 100 2 -> 0", "set 1 0 10", "decay 0 0 100 2 -> 10", "decay 0 0 100 3 -> 0",
            "decay 0 1 100 2 -> 0", "set 1 0 9", "decay 0 0 100 2 -> 9", "decay 0 0 100 3 -> 1", "set 1 0 0",
            "decay 0 0 100 2 -> 0", "decay 0 0 100 3 -> 10", "decay 0 1 100 3 -> 20", "set 1 0 9999",
            "decay 0 2 100 2 -> 30", "decay 0 2 100 3 -> 0", "decay 1 0 100 2 -> 0", "decay 1 0 100 3 -> 0");
    }

    private static void promise23() {
        S.sentence("A SUIT: its number. UNKNOWN, OUTSIDE (the DAY 0 .. NOW), FULL.");
        S.asks(Sentences.book(TWO), "present 2 0 0 -> UNKNOWN", "present -1 0 0 -> UNKNOWN", "present 0 2 0 -> UNKNOWN",
            "present 0 -1 0 -> UNKNOWN", "present 2 0 1 -> UNKNOWN", "present 0 0 1 -> OUTSIDE",
            "present 0 0 -1 -> OUTSIDE", "count 6 -> 0", "20 x present 0 0 0 -> 19", "present 0 0 0 -> FULL",
            "present 0 0 1 -> OUTSIDE", "present 2 0 0 -> UNKNOWN", "count 6 -> 20");
    }

    private static void promise24() {
        S.sentence("The next STEP of a SUIT: which. UNKNOWN, OUTSIDE (the DAY); NOT: five are done.");
        DioceseBook b = Sentences.book(TWO);
        S.asks(b, "step 0 0 -> UNKNOWN", "go 9", "present 0 0 5", "step 1 5 -> UNKNOWN", "step -1 5 -> UNKNOWN",
            "step 1 4 -> UNKNOWN", "step 0 4 -> OUTSIDE", "step 0 10 -> OUTSIDE", "step 0 -1 -> OUTSIDE",
            "suit 0 9 0 -> 0", "step 0 5 -> 1", "3 x step 0 6 -> 4", "step 0 9 -> 5", "step 0 9 -> NOT",
            "step 0 8 -> OUTSIDE", "step 0 10 -> OUTSIDE", "step 1 9 -> UNKNOWN", "suit 0 9 0 -> 5", "suit 0 9 1 -> 9");
    }

    private static void promise25() {
        S.sentence("STEPS from k (1 .. 5) on are undone: how many are left. UNKNOWN, OUTSIDE; NOT: it has no such STEP.");
        DioceseBook b = Sentences.book(TWO);
        S.asks(b, "appeal 0 1 -> UNKNOWN", "present 0 0 0", "appeal 0 1 -> NOT", "appeal 0 5 -> NOT",
            "appeal 0 0 -> OUTSIDE", "appeal 0 6 -> OUTSIDE", "appeal 1 0 -> UNKNOWN", "appeal -1 1 -> UNKNOWN",
            "5 x step 0 0 -> 5", "appeal 0 6 -> OUTSIDE", "appeal 0 0 -> OUTSIDE", "suit 0 0 0 -> 5", "appeal 0 5 -> 4",
            "appeal 0 5 -> NOT", "appeal 0 4 -> 3", "appeal 0 1 -> 0", "appeal 0 1 -> NOT", "step 0 0 -> 1");
    }

    private static void promise26() {
        S.sentence("Of a SUIT on a DAY (0 .. 30000): what = 0 STEPS by then, 1 the DAY of the last one (of being "
            + "presented; NONE: not yet), 2 whether it SLEEPS (1, 0), 3 FEES of all. UNKNOWN, OUTSIDE.");
        DioceseBook b = Sentences.book(TWO);
        S.asks(b, "go 20", "law 0 let fee 5;", "present 0 0 5", "suit 0 4 1 -> NONE", "suit 0 5 1 -> 5",
            "suit 0 30000 1 -> 5", "suit 0 4 0 -> 0", "suit 0 4 2 -> 0", "suit 0 4 3 -> 0", "step 0 7", "step 0 20",
            "suit 0 6 0 -> 0", "suit 0 6 1 -> 5", "suit 0 7 0 -> 1", "suit 0 7 1 -> 7", "suit 0 19 0 -> 1",
            "suit 0 20 0 -> 2", "suit 0 20 1 -> 20", "suit 0 0 0 -> 0", "suit 0 0 1 -> NONE", "suit 0 30000 0 -> 2",
            "suit 0 30000 3 -> 10", "suit 0 -1 0 -> OUTSIDE", "suit 0 30001 0 -> OUTSIDE", "suit 0 0 -1 -> OUTSIDE",
            "suit 0 0 4 -> OUTSIDE", "suit 1 0 0 -> UNKNOWN", "suit -1 0 0 -> UNKNOWN", "suit 1 30001 4 -> UNKNOWN");
    }

    private static void promise27() {
        S.sentence("DECAY for a PERSON in a LIVING AS KNOWN on a DAY: what = 0 the DAY of its end (NONE), 1 DECAY, 2 "
            + "PAID, 3 OWED. UNKNOWN, OUTSIDE.");
        DioceseBook b = Sentences.book(TWO);
        S.asks(b, "go 9", "decay 0 0 9 0 -> NONE", "decay 0 0 9 1 -> 0", "decay 0 0 9 2 -> 0", "decay 0 0 9 3 -> 0",
            "decay 0 0 0 0 -> NONE", "decay 2 0 9 0 -> UNKNOWN", "decay -1 0 9 0 -> UNKNOWN", "decay 0 2 9 0 -> UNKNOWN",
            "decay 0 -1 9 0 -> UNKNOWN", "decay 0 0 10 0 -> OUTSIDE", "decay 0 0 -1 0 -> OUTSIDE",
            "decay 0 0 9 -1 -> OUTSIDE", "decay 0 0 9 4 -> OUTSIDE", "decay 2 0 10 4 -> UNKNOWN");
        DioceseBook full = Sentences.book("40 x person 9999", "12 x living 0 0 0", "until 30000",
            "paper IN 29910 11 39 CROWN 0", "paper DIED 29910 0 39 0 0", "paper SURVEY 30000 11 0 0 9999");
        S.asks(full, "decay 39 11 30000 0 -> 29910", "decay 39 11 30000 1 -> 9999", "decay 39 11 30000 2 -> 9999",
            "decay 39 11 30000 3 -> 0", "decay 40 11 30000 0 -> UNKNOWN", "decay 39 12 30000 0 -> UNKNOWN");
    }
}
