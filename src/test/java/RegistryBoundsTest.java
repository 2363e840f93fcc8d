/** Sentence by sentence, where a boundary is named: the face, the terms, section 1 and promises 1 to 10. */
public final class RegistryBoundsTest {
    private static final Sentences S = new Sentences();

    public static void main(String[] args) {
        lastCall();
        constants();
        cuts();
        numbers();
        sets();
        nowAndDays();
        monthAndYear();
        personsAndLivings();
        miles();
        papers();
        kinds();
        asKnown();
        bookOfADay();
        firstPapers();
        promise1();
        promise2();
        promise3And4();
        promise5();
        promise6();
        promise7();
        promise8();
        promise9();
        promise10();
        S.end();
    }

    private static void lastCall() {
        S.sentence("An object is used for at most 512 calls after it has been made; what later calls answer is free.");
        DioceseBook b = Sentences.book("person 0", "living 0 0 0", "75 x paper IN 0 0 0 CROWN 0",
            "75 x paper OUT 0 0 0 0 0", "359 x seat 0 0 0 1");
        S.asks(b, "change 0 0 1 1 -> 0");
        DioceseBook full = Sentences.book("40 x person 0", "12 x living 50 -50 999", "150 x paper BORN 0 0 0 0 0",
            "10 x canon 0", "25 x feed 8 0", "20 x present 0 0 0", "16 x piece 0 0 0 0 0", "8 x field 11 1 99 999 99",
            "230 x plan 4080 999 0");
        S.asks(full, "plan 4080 999 0 -> 4080");
    }

    private static void constants() {
        S.sentence("NONE = -1, BISHOP = -2, PRIMATE = -3, CROWN = -4, UNKNOWN = -100001, OUTSIDE = -100002, NOT = "
            + "-100003, FULL = -100004, LARGE = -100005");
        S.due("NONE", DioceseBook.NONE, -1);
        S.due("BISHOP", DioceseBook.BISHOP, -2);
        S.due("PRIMATE", DioceseBook.PRIMATE, -3);
        S.due("CROWN", DioceseBook.CROWN, -4);
        S.due("UNKNOWN", DioceseBook.UNKNOWN, -100001);
        S.due("OUTSIDE", DioceseBook.OUTSIDE, -100002);
        S.due("NOT", DioceseBook.NOT, -100003);
        S.due("FULL", DioceseBook.FULL, -100004);
        S.due("LARGE", DioceseBook.LARGE, -100005);
    }

    private static void cuts() {
        S.sentence("All numbers are whole; / cuts towards 0.");
        S.asks(Sentences.book("living 0 0 0", "field 0 0 0 9 0"), "match 0 NONE -> 10", "field 0 0 0 19 0 -> 1",
            "match 0 NONE -> 21", "field 0 0 0 999 0 -> 2", "match 0 NONE -> 130");
        S.asks(Sentences.book("person 9999", "living 0 0 0", "law 0 let decay 2;", "paper IN 0 0 0 CROWN 0",
            "paper OUT 0 0 0 0 0", "paper SURVEY 0 0 0 0 0", "paper SURVEY 0 0 0 0 1"), "decay 0 0 0 1 -> 0");
    }

    private static void numbers() {
        S.sentence("What has a number has it from 0 on, as it comes.");
        S.asks(new DioceseBook(), "person 0 -> 0", "person -1 -> OUTSIDE", "person 0 -> 1",
            "living 0 0 0 -> 0", "living 51 0 0 -> OUTSIDE", "living 0 0 0 -> 1",
            "paper BORN 0 0 0 0 0 -> 0", "paper BORN 1 0 0 0 0 -> OUTSIDE", "paper NOTICE 0 0 0 0 0 -> 1",
            "law 0 let fee 1; -> 0", "law 0 let fee -> -11", "law 0 let fee 1; -> 1",
            "present 0 0 0 -> 0", "present 0 0 1 -> OUTSIDE", "present 0 0 0 -> 1",
            "field 0 0 0 1 0 -> 0", "field 0 0 0 0 0 -> OUTSIDE", "field 0 0 0 1 0 -> 1", "field 0 1 0 1 0 -> 0",
            "field 1 0 0 1 0 -> 0", "piece 0 0 0 0 0 -> 0", "piece 0 0 0 1 0 -> OUTSIDE", "piece 0 0 0 0 0 -> 1");
    }

    private static void sets() {
        S.sentence("A SET is a whole number, bit k for k.");
        DioceseBook b = Sentences.book("40 x person 0", "12 x living 0 0 0", "paper IN 0 0 0 CROWN 0",
            "paper IN 0 1 30 CROWN 0", "paper IN 0 2 31 CROWN 0", "paper IN 0 3 39 CROWN 0");
        S.asks(b, "seat 0 0 0 2 -> 1", "seat 1 0 0 2 -> 1073741824", "seat 2 0 0 2 -> 0", "seat 3 0 0 2 -> 0",
            "seat 4 0 0 2 -> 0", "plan 1 1 0 -> 1", "plan 2048 1 0 -> 2048", "plan 4096 1 0 -> UNKNOWN");
    }

    private static void nowAndDays() {
        S.sentence("DAYS are 0 to 30000; NOW is one (0 at first).");
        S.asks(Sentences.book("person 0", "living 0 0 0"), "count 0 -> 0", "paper BORN 1 0 0 0 0 -> OUTSIDE",
            "until 30000 -> 30000", "go 1 -> NOT", "go 0 -> 30000", "paper DIED 30000 0 0 0 0 -> 0",
            "about 0 30000 1 -> 30000", "about 0 30001 1 -> OUTSIDE", "about 0 0 1 -> NONE", "about 0 -1 1 -> OUTSIDE",
            "seat 0 30000 30000 0 -> 0", "seat 0 30001 30000 0 -> OUTSIDE", "seat 0 0 0 0 -> 0",
            "seat 0 -1 0 0 -> OUTSIDE");
    }

    private static void monthAndYear() {
        S.sentence("A MONTH has 30 DAYS, a YEAR 360.");
        DioceseBook b = Sentences.book("person 0", "living 0 0 0", "paper ALONE 0 0 0 0 0", "paper BORN 0 0 0 0 0",
            "law 0 let lapse 1;bar age=0;bar age=1;bar age=83;");
        S.asks(b, "seat 0 29 0 5 -> 0", "seat 0 30 0 5 -> BISHOP", "barred 0 0 359 0 -> 1", "barred 0 0 360 0 -> 2",
            "barred 0 0 719 0 -> 2", "barred 0 0 720 0 -> NONE", "barred 0 0 29879 0 -> NONE", "barred 0 0 29880 0 -> 3",
            "barred 0 0 30000 0 -> 3");
    }

    private static void personsAndLivings() {
        S.sentence("PERSONS (40 at most) have an ESTATE (0 .. 9999).");
        S.asks(new DioceseBook(), "about 0 0 0 -> UNKNOWN", "set 1 0 0 -> UNKNOWN", "39 x person 9999 -> 38",
            "about 39 0 0 -> UNKNOWN", "person 0 -> 39", "person 0 -> FULL", "count 1 -> 40", "about 39 0 0 -> NONE",
            "about 40 0 0 -> UNKNOWN", "set 1 38 0 -> 9999", "set 1 39 9999 -> 0", "set 1 39 10000 -> OUTSIDE",
            "set 1 39 -1 -> OUTSIDE", "set 1 39 0 -> 9999");
        S.sentence("LIVINGS (12 at most) lie at (x, y) (-50 .. 50) and have a WORTH (0 .. 999)");
        S.asks(new DioceseBook(), "seat 0 0 0 0 -> UNKNOWN", "set 0 0 0 -> UNKNOWN", "11 x living -50 50 999 -> 10",
            "seat 11 0 0 0 -> UNKNOWN", "living 50 -50 0 -> 11", "living 0 0 0 -> FULL", "count 2 -> 12",
            "seat 11 0 0 0 -> 0", "seat 12 0 0 0 -> UNKNOWN", "set 0 10 0 -> 999", "set 0 11 999 -> 0",
            "set 0 11 1000 -> OUTSIDE", "set 0 11 -1 -> OUTSIDE", "set 0 11 0 -> 999");
        S.asks(new DioceseBook(), "living -51 0 0 -> OUTSIDE", "living 51 0 0 -> OUTSIDE", "living 0 -51 0 -> OUTSIDE",
            "living 0 51 0 -> OUTSIDE", "living 0 0 1000 -> OUTSIDE", "living 0 0 -1 -> OUTSIDE", "count 2 -> 0");
    }

    private static void miles() {
        S.sentence("MILES between two of them are the sizes of both differences together.");
        DioceseBook b = Sentences.book("person 0", "living -50 -50 0", "living 50 50 0", "living -50 50 0",
            "living -50 -50 0", "paper IN 0 0 0 CROWN 0", "law 0 bar far=200;bar far=100;bar far=0 and holds=1;");
        S.asks(b, "barred 0 1 0 0 -> 0", "barred 0 2 0 0 -> 1", "barred 0 3 0 0 -> 2");
        S.sentence("THE SEE lies at (0, 0).");
        S.asks(Sentences.book("living 0 0 0", "living 0 -1 0", "living -50 50 0"), "plan 1 1 -2 -> 0",
            "plan 2 1 -2 -> NOT", "plan 2 2 -2 -> 2", "plan 4 199 -2 -> NOT", "plan 4 200 -2 -> 200");
    }

    private static void papers() {
        S.sentence("PAPERS (150 at most) are told at NOW, each of a KIND, of something done on a DAY that is not after "
            + "NOW");
        S.asks(Sentences.book("person 0", "go 10"), "told 0 0 -> UNKNOWN", "paper BORN 11 0 0 0 0 -> OUTSIDE",
            "paper BORN -1 0 0 0 0 -> OUTSIDE", "paper BORN 10 0 0 0 0 -> 0", "paper BORN 0 0 0 0 0 -> 1",
            "told 0 2 -> 10", "told 1 2 -> 10", "told 1 1 -> 0", "147 x paper BORN 5 0 0 0 0 -> 148",
            "told 149 0 -> UNKNOWN", "go 1", "paper DIED 11 0 0 0 0 -> 149", "paper DIED 11 0 0 0 0 -> FULL",
            "count 3 -> 150", "told 149 0 -> 1", "told 149 2 -> 11", "told 150 0 -> UNKNOWN", "about 0 11 0 -> 0",
            "about 0 11 1 -> 11", "book 11 0 -> 1", "book 11 149 -> 149", "book 11 150 -> NONE", "book 10 148 -> 0",
            "book 10 149 -> NONE");
    }

    private static void kinds() {
        S.sentence("0 BORN: PERSON p.");
        S.asks(Sentences.book("person 0"), "paper -1 0 0 0 0 0 -> OUTSIDE", "paper 0 0 0 0 0 0 -> 0",
            "paper 0 0 0 1 0 0 -> UNKNOWN", "paper 0 0 0 -1 0 0 -> UNKNOWN");
        S.sentence("1 DIED: p. 2 PRIESTED: p. 3 IN: p into LIVING l, presented by q. 4 OUT: p out of l. 5 LEAVE: p may "
            + "hold two. 6 HEIR: q is the heir of p.");
        S.asks(Sentences.book("2 x person 0", "living 0 0 0"), "paper 1 0 0 2 0 0 -> UNKNOWN", "paper 1 0 0 1 0 0 -> 0",
            "paper 2 0 0 2 0 0 -> UNKNOWN", "paper 2 0 0 1 0 0 -> 1", "paper 3 0 0 2 0 0 -> UNKNOWN",
            "paper 3 0 1 1 0 0 -> UNKNOWN", "paper 3 0 0 1 0 0 -> 2", "paper 4 0 0 2 0 0 -> UNKNOWN",
            "paper 4 0 1 1 0 0 -> UNKNOWN", "paper 4 0 0 1 0 0 -> 3", "paper 5 0 0 2 0 0 -> UNKNOWN",
            "paper 5 0 0 1 0 0 -> 4", "paper 6 0 0 2 0 0 -> UNKNOWN", "paper 6 0 0 1 2 0 -> UNKNOWN",
            "paper 6 0 0 1 0 0 -> 5", "about 1 0 0 -> NONE", "about 1 0 1 -> 0", "about 1 0 2 -> 0", "about 1 0 3 -> 0",
            "about 1 0 4 -> 1", "about 0 0 3 -> NONE", "seat 0 0 0 0 -> 0", "change 0 0 0 2 -> 2", "change 0 0 1 2 -> 3");
        S.sentence("8 ALONE: the right of l is p's alone. 9 NEXT: q has the next turn of p in l. 10 NOTICE of l.");
        S.asks(Sentences.book("2 x person 0", "living 0 0 0"), "paper 8 0 1 1 0 0 -> UNKNOWN",
            "paper 8 0 0 2 0 0 -> UNKNOWN", "paper 8 0 0 1 0 0 -> 0", "seat 0 0 0 6 -> 1", "paper 9 0 1 1 0 0 -> UNKNOWN",
            "paper 9 0 0 2 0 0 -> UNKNOWN", "paper 9 0 0 1 2 0 -> UNKNOWN", "paper 9 0 0 1 0 0 -> 1", "seat 0 0 0 5 -> 0",
            "paper 10 0 1 0 0 0 -> UNKNOWN", "paper 10 0 0 0 0 0 -> 2");
        S.sentence("7 SHARED: the right of l is shared by p and q, by turns, p first.");
        S.asks(Sentences.book("2 x person 0", "living 0 0 0"), "paper 7 0 0 1 0 0 -> 0", "seat 0 0 0 6 -> 1",
            "paper 7 0 0 1 1 0 -> OUTSIDE", "paper 7 0 1 1 0 0 -> UNKNOWN", "paper 7 0 0 1 2 0 -> UNKNOWN",
            "paper 7 0 0 2 1 0 -> UNKNOWN");
        S.sentence("11 SURVEY of l: v (0 .. 9999).");
        S.asks(Sentences.book("living 0 0 0"), "paper 11 0 0 0 0 -1 -> OUTSIDE", "paper 11 0 0 0 0 10000 -> OUTSIDE",
            "paper 11 0 0 0 0 0 -> 0", "paper 11 0 0 0 0 9999 -> 1", "told 0 6 -> 0", "told 1 6 -> 9999",
            "paper 11 0 1 0 0 0 -> UNKNOWN");
        S.sentence("12 VOID: PAPER v (told already) is nothing.");
        S.asks(Sentences.book("person 0"), "paper 12 0 0 0 0 0 -> UNKNOWN", "paper BORN 0 0 0 0 0 -> 0",
            "paper 12 0 0 0 0 1 -> UNKNOWN", "paper 12 0 0 0 0 -1 -> UNKNOWN", "paper 12 0 0 0 0 0 -> 1",
            "paper 12 0 0 0 0 2 -> UNKNOWN", "paper 12 0 0 0 0 1 -> 2", "paper 13 0 0 0 0 0 -> OUTSIDE");
        S.sentence("q of IN is a PERSON, or THE BISHOP (-2), THE PRIMATE (-3), THE CROWN (-4).");
        S.asks(Sentences.book("2 x person 0", "living 0 0 0"), "paper IN 0 0 0 2 0 -> UNKNOWN", "paper IN 0 0 0 1 0 -> 0",
            "paper IN 0 0 0 0 0 -> 1", "paper IN 0 0 0 -1 0 -> UNKNOWN", "paper IN 0 0 0 -2 0 -> 2",
            "paper IN 0 0 0 -3 0 -> 3", "paper IN 0 0 0 -4 0 -> 4", "paper IN 0 0 0 -5 0 -> UNKNOWN",
            "paper HEIR 0 0 0 -2 0 -> UNKNOWN", "paper SHARED 0 0 0 -3 0 -> UNKNOWN", "paper NEXT 0 0 0 -4 0 -> UNKNOWN");
    }

    private static void asKnown() {
        S.sentence("AS KNOWN on a DAY d: those PAPERS that were told by d and are not VOID by one that was told by d");
        DioceseBook b = Sentences.book("person 0", "go 5", "paper BORN 2 0 0 0 0", "go 2", "paper VOID 0 0 0 0 0",
            "go 1");
        S.asks(b, "about 0 4 0 -> NONE", "about 0 5 0 -> 2", "about 0 6 0 -> 2", "about 0 7 0 -> NONE",
            "about 0 8 0 -> NONE", "book 4 0 -> NONE", "book 5 0 -> 0", "book 6 1 -> NONE", "book 7 0 -> 1",
            "book 7 1 -> NONE");
        S.sentence("(a VOID one that is VOID itself makes nothing VOID; of VOID PAPERS the later ones come first)");
        DioceseBook c = Sentences.book("person 0", "paper BORN 0 0 0 0 0", "go 1", "paper VOID 0 0 0 0 0", "go 1",
            "paper VOID 0 0 0 0 1", "go 1", "paper VOID 0 0 0 0 2");
        S.asks(c, "about 0 0 0 -> 0", "about 0 1 0 -> NONE", "about 0 2 0 -> 0", "about 0 3 0 -> NONE", "count 4 -> 2",
            "told 0 7 -> 1", "told 1 7 -> 0", "told 2 7 -> 1", "told 3 7 -> 0");
        DioceseBook twice = Sentences.book("person 0", "paper BORN 0 0 0 0 0", "2 x paper VOID 0 0 0 0 0",
            "paper VOID 0 0 0 0 2");
        S.asks(twice, "about 0 0 0 -> NONE", "paper VOID 0 0 0 0 1 -> 4", "about 0 0 0 -> 0", "count 4 -> 2",
            "paper VOID 0 0 0 0 3 -> 5", "about 0 0 0 -> NONE", "count 4 -> 3");
    }

    private static void bookOfADay() {
        S.sentence("THE BOOK of d are these by DAYS on which they were done, of one DAY by numbers.");
        DioceseBook b = Sentences.book("person 0", "go 9", "paper BORN 9 0 0 0 0", "paper BORN 8 0 0 0 0",
            "paper BORN 9 0 0 0 0", "paper BORN 0 0 0 0 0", "paper BORN 8 0 0 0 0");
        S.asks(b, "book 9 0 -> 3", "book 9 1 -> 1", "book 9 2 -> 4", "book 9 3 -> 0", "book 9 4 -> 2",
            "book 9 5 -> NONE");
        S.sentence("THE STORY by THE BOOK of d, PAPER by PAPER up to a DAY (that DAY with it).");
        DioceseBook c = Sentences.book("2 x person 0", "living 0 0 0", "go 9", "paper OUT 5 0 0 0 0",
            "paper IN 5 0 0 CROWN 0");
        S.asks(c, "seat 0 4 9 0 -> 0", "seat 0 5 9 0 -> 1", "paper OUT 5 0 0 0 0 -> 2", "seat 0 5 9 0 -> 0",
            "seat 0 30000 9 0 -> 0");
    }

    private static void firstPapers() {
        S.sentence("BORN, DIED, PRIESTED on: the DAY of the first such PAPER in THE BOOK; NONE.");
        DioceseBook b = Sentences.book("2 x person 0", "go 9", "paper DIED 7 0 0 0 0", "paper DIED 5 0 1 0 0",
            "paper DIED 6 0 0 0 0", "paper BORN 3 0 0 0 0", "paper BORN 3 0 0 0 0", "paper PRIESTED 9 0 0 0 0",
            "paper PRIESTED 0 0 0 0 0");
        S.asks(b, "about 0 9 0 -> 3", "about 0 9 1 -> 6", "about 0 9 2 -> 0", "about 1 9 0 -> NONE", "about 1 9 1 -> 5",
            "about 1 9 2 -> NONE", "paper VOID 9 0 0 0 2 -> 7", "about 0 9 1 -> 7", "paper VOID 9 0 0 0 0 -> 8",
            "about 0 9 1 -> NONE", "about 0 8 1 -> NONE");
    }

    private static void promise1() {
        S.sentence("Nobody, nothing told; DAY 0.");
        for (int what = 0; what <= 10; what++) {
            S.asks(new DioceseBook(), "count " + what + " -> 0");
        }
        S.asks(new DioceseBook(), "about 0 0 0 -> UNKNOWN", "told 0 0 -> UNKNOWN", "book 0 0 -> NONE", "fault -> NONE",
            "counts 0 0 -> UNKNOWN", "barred 0 0 0 0 -> UNKNOWN", "seat 0 0 0 0 -> UNKNOWN", "good 0 0 -> UNKNOWN",
            "why 0 0 -> UNKNOWN", "change 0 0 0 0 -> UNKNOWN", "days 0 0 0 0 0 -> UNKNOWN", "news 0 0 0 -> 0",
            "present 0 0 0 -> UNKNOWN", "step 0 0 -> UNKNOWN", "appeal 0 1 -> UNKNOWN", "suit 0 0 0 -> UNKNOWN",
            "decay 0 0 0 0 -> UNKNOWN", "field 0 0 0 1 0 -> UNKNOWN", "match 0 NONE -> UNKNOWN", "one 0 0 -> UNKNOWN",
            "lives NONE -> 0", "lives 0 -> UNKNOWN", "plan 1 1 0 -> UNKNOWN", "plan 0 1 0 -> OUTSIDE");
    }

    private static void promise2() {
        S.sentence("NOW goes on by n (0 .. 9999): NOW.");
        S.asks(new DioceseBook(), "go 0 -> 0", "go -1 -> OUTSIDE", "go 10000 -> OUTSIDE", "count 0 -> 0",
            "go 9999 -> 9999", "go 1 -> 10000", "go 0 -> 10000");
        S.sentence("OUTSIDE; NOT: it would be above 30000.");
        S.asks(Sentences.book("until 20001"), "go 9999 -> 30000", "go 1 -> NOT", "go 9999 -> NOT", "go 10000 -> OUTSIDE",
            "count 0 -> 30000");
        S.asks(Sentences.book("until 20002"), "go 9999 -> NOT", "count 0 -> 20002", "go 9998 -> 30000");
    }

    private static void promise3And4() {
        S.sentence("A PERSON: its number. OUTSIDE, FULL.");
        S.asks(new DioceseBook(), "person -1 -> OUTSIDE", "person 10000 -> OUTSIDE", "count 1 -> 0", "person 9999 -> 0",
            "39 x person 0 -> 39", "person 0 -> FULL", "person 10000 -> OUTSIDE", "count 1 -> 40");
        S.sentence("A LIVING: its number. OUTSIDE, FULL.");
        S.asks(new DioceseBook(), "living -50 -50 0 -> 0", "11 x living 50 50 999 -> 11", "living 50 50 999 -> FULL",
            "living 50 51 999 -> OUTSIDE", "living 50 50 1000 -> OUTSIDE", "count 2 -> 12");
    }

    private static void promise5() {
        S.sentence("WORTH (what = 0) of a LIVING, ESTATE (1) of a PERSON becomes v: what it was. UNKNOWN, OUTSIDE.");
        DioceseBook b = Sentences.book("2 x person 7", "living 0 0 8");
        S.asks(b, "set 0 0 0 -> 8", "set 0 0 999 -> 0", "set 0 0 1000 -> OUTSIDE", "set 0 0 -1 -> OUTSIDE",
            "set 0 1 0 -> UNKNOWN", "set 0 -1 0 -> UNKNOWN", "set 0 1 1000 -> UNKNOWN", "set 0 0 1 -> 999",
            "set 1 0 0 -> 7", "set 1 1 9999 -> 7", "set 1 0 9999 -> 0", "set 1 0 10000 -> OUTSIDE",
            "set 1 0 -1 -> OUTSIDE", "set 1 2 0 -> UNKNOWN", "set 1 -1 0 -> UNKNOWN", "set 1 2 -1 -> UNKNOWN",
            "set 1 0 1 -> 9999", "set 2 0 0 -> OUTSIDE", "set -1 0 0 -> OUTSIDE", "set 2 5 0 -> OUTSIDE");
    }

    private static void promise6() {
        S.sentence("A PAPER of a KIND: its number; numbers that it has not are not looked at.");
        S.asks(Sentences.book("2 x person 0", "living 0 0 0"), "paper BORN 0 -1 0 -1 -1 -> 0",
            "paper DIED 0 1 0 2 10000 -> 1", "paper PRIESTED 0 1 0 2 10000 -> 2", "paper IN 0 0 0 1 10000 -> 3",
            "paper OUT 0 0 0 2 10000 -> 4", "paper LEAVE 0 1 0 2 10000 -> 5", "paper HEIR 0 1 0 1 10000 -> 6",
            "paper SHARED 0 0 0 1 10000 -> 7", "paper ALONE 0 0 0 0 10000 -> 8", "paper NEXT 0 0 0 0 10000 -> 9",
            "paper NOTICE 0 0 2 2 10000 -> 10", "paper SURVEY 0 0 2 2 9999 -> 11", "paper VOID 0 1 2 2 11 -> 12");
        S.sentence("PAPERS of KIND 6, 7 of one PERSON twice: OUTSIDE.");
        S.asks(Sentences.book("2 x person 0", "living 0 0 0"), "paper 6 0 0 1 1 0 -> OUTSIDE",
            "paper 7 0 0 0 0 0 -> OUTSIDE", "paper 6 0 0 2 2 0 -> UNKNOWN", "count 3 -> 0", "paper 3 0 0 1 1 0 -> 0",
            "paper 9 0 0 1 1 0 -> 1", "paper 6 0 0 1 0 0 -> 2", "paper 7 0 0 0 1 0 -> 3");
        S.sentence("UNKNOWN (p, l, q, the PAPER v of KIND 12), OUTSIDE (KIND, DAY, v), FULL.");
        DioceseBook b = Sentences.book("person 0", "living 0 0 0", "150 x paper NOTICE 0 0 0 0 0");
        S.asks(b, "paper IN 1 0 1 CROWN 0 -> UNKNOWN", "paper IN 1 1 0 CROWN 0 -> UNKNOWN",
            "paper IN 1 0 0 1 0 -> UNKNOWN", "paper VOID 1 0 0 0 150 -> UNKNOWN", "paper VOID 1 0 0 0 -1 -> UNKNOWN",
            "paper 13 0 0 0 0 0 -> OUTSIDE", "paper -1 0 0 0 0 0 -> OUTSIDE", "paper IN 1 0 0 CROWN 0 -> OUTSIDE",
            "paper IN -1 0 0 CROWN 0 -> OUTSIDE", "paper SURVEY 0 0 0 0 10000 -> OUTSIDE",
            "paper SURVEY 0 1 0 0 10000 -> UNKNOWN", "paper IN 0 0 0 CROWN 0 -> FULL", "paper VOID 0 0 0 0 149 -> FULL",
            "count 3 -> 150");
    }

    private static void promise7() {
        S.sentence("what = 0 KIND, 1 its DAY, 2 the DAY on which it was told, 3 l, 4 p, 5 q, 6 v (NONE: it has none), "
            + "7 whether it is VOID AS KNOWN now (1, 0). UNKNOWN, OUTSIDE.");
        DioceseBook b = Sentences.book("2 x person 0", "living 0 0 0", "go 3", "paper IN 1 0 1 PRIMATE 5",
            "paper BORN 3 0 0 0 0", "paper SURVEY 0 0 1 1 0");
        S.asks(b, "told 0 0 -> 3", "told 0 1 -> 1", "told 0 2 -> 3", "told 0 3 -> 0", "told 0 4 -> 1",
            "told 0 5 -> PRIMATE", "told 0 6 -> NONE", "told 0 7 -> 0", "told 1 3 -> NONE", "told 1 4 -> 0",
            "told 1 5 -> NONE", "told 2 4 -> NONE", "told 2 5 -> NONE", "told 2 6 -> 0", "told 0 -1 -> OUTSIDE",
            "told 0 8 -> OUTSIDE", "told 3 0 -> UNKNOWN", "told -1 0 -> UNKNOWN", "told 3 8 -> UNKNOWN",
            "paper VOID 0 0 0 0 0 -> 3", "told 0 7 -> 1", "told 3 7 -> 0", "told 3 6 -> 0", "told 3 3 -> NONE");
    }

    private static void promise8() {
        S.sentence("The i-th PAPER of THE BOOK of a DAY (0 .. NOW): its number; NONE. OUTSIDE.");
        S.asks(Sentences.book("person 0", "go 5", "paper BORN 5 0 0 0 0", "paper BORN 0 0 0 0 0"), "book 5 0 -> 1",
            "book 5 1 -> 0", "book 5 2 -> NONE", "book 5 -1 -> NONE", "book 0 0 -> NONE", "book 6 0 -> OUTSIDE",
            "book -1 0 -> OUTSIDE", "go 1 -> 6", "book 6 0 -> 1", "book 7 0 -> OUTSIDE");
        S.asks(new DioceseBook(), "book 0 0 -> NONE", "book 1 0 -> OUTSIDE");
    }

    private static void promise9() {
        S.sentence("what = 0 BORN, 1 DIED, 2 PRIESTED on (NONE), 3 the last HEIR told, 4 whether it has a LEAVE (1, "
            + "0). UNKNOWN, OUTSIDE.");
        DioceseBook b = Sentences.book("3 x person 0", "go 5");
        S.asks(b, "about 0 5 0 -> NONE", "about 0 5 1 -> NONE", "about 0 5 2 -> NONE", "about 0 5 3 -> NONE",
            "about 0 5 4 -> 0", "paper HEIR 4 0 0 1 0", "paper HEIR 4 0 0 2 0", "paper HEIR 5 0 2 1 0",
            "paper LEAVE 5 0 0 0 0", "about 0 5 3 -> 2", "about 2 5 3 -> 1", "about 1 5 3 -> NONE", "about 0 5 4 -> 1",
            "about 1 5 4 -> 0", "about 0 4 3 -> NONE", "about 0 4 4 -> 0", "about 0 5 -1 -> OUTSIDE",
            "about 0 5 5 -> OUTSIDE", "about 0 6 0 -> OUTSIDE", "about 0 -1 0 -> OUTSIDE", "about 3 5 0 -> UNKNOWN",
            "about -1 5 0 -> UNKNOWN", "about 3 6 5 -> UNKNOWN");
        S.asks(Sentences.book("2 x person 0", "paper HEIR 0 0 0 1 0"), "about 0 0 3 -> 1", "about 1 0 3 -> NONE");
        S.asks(Sentences.book("2 x person 0", "149 x paper BORN 0 0 0 0 0"), "about 1 0 3 -> NONE",
            "paper HEIR 0 0 1 0 0 -> 149", "about 1 0 3 -> 0", "about 0 0 3 -> NONE", "about 1 0 4 -> 0");
    }

    private static void promise10() {
        S.sentence("0 NOW, 1 PERSONS, 2 LIVINGS, 3 PAPERS, 4 of these VOID (AS KNOWN now), 5 CANONS, 6 SUITS, 7 "
            + "PIECES, 8 LIVINGS that are EMPTY today, 9 CLAIMED today, 10 bytes of THE TEXT. OUTSIDE.");
        S.asks(new DioceseBook(), "count -1 -> OUTSIDE", "count 11 -> OUTSIDE", "count 0 -> 0", "count 10 -> 0");
        DioceseBook b = Sentences.book("until 30000", "40 x person 0", "12 x living 0 0 0", "paper IN 0 0 0 CROWN 0",
            "paper IN 0 0 1 CROWN 0", "paper IN 30000 1 2 CROWN 0", "146 x paper BORN 0 0 0 0 0",
            "paper VOID 0 0 0 0 148", "10 x law 30000", "20 x present 0 0 0", "16 x piece 0 0 0 0 0", "25 x feed 8 0");
        S.asks(b, "count 0 -> 30000", "count 1 -> 40", "count 2 -> 12", "count 3 -> 150", "count 4 -> 1", "count 5 -> 10",
            "count 6 -> 20", "count 7 -> 16", "count 8 -> 10", "count 9 -> 1", "count 10 -> 200");
        DioceseBook today = Sentences.book("2 x person 0", "living 0 0 0", "go 9", "paper IN 8 0 0 CROWN 0",
            "paper IN 9 0 1 CROWN 0");
        S.asks(today, "count 8 -> 0", "count 9 -> 1", "paper OUT 9 0 0 0 0", "count 9 -> 0", "paper OUT 9 0 1 0 0",
            "count 8 -> 1");
    }
}
