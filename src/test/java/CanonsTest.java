/** Promises 11 to 16: THE TEXT, CANONS, their FAULTS, what holds of them, bars. */
public final class CanonsTest {
    private static final Check C = new Check();
    private static final String[] NAMES = {"lapse", "miles", "worth", "void", "lapsed", "decay", "steps", "fee"};
    private static final int[] MOST = {24, 99, 999, 1, 1, 2, 999, 999};
    private static final int[] AT_FIRST = {6, 30, 100, 0, 0, 0, 0, 0};

    public static void main(String[] args) {
        promise11();
        promise12();
        goodTexts();
        wordsThatCannotStand();
        numbers();
        strikesAndClauses();
        brackets();
        bytes();
        promise13();
        promise14();
        promise15();
        promise16Facts();
        promise16Unless();
        promise16Order();
        promise16Holders();
        C.end();
    }

    private static void promise11() {
        DioceseBook b = new DioceseBook();
        C.row("feed refused", "-100002 -100002 0", b.feed(0, 65), b.feed(9, 65), b.count(10));
        long letBlank = 0x6C657420L;
        C.row("feed", "4 8 9", b.feed(4, letBlank), b.feed(4, 0x7777_7777_6665_6520L), b.feed(1, -256 + '9'));
        C.row("highest first", "10 0", b.feed(1, ';'), b.canon(3));
        C.row("fee", "9 0", b.force(7, 3, 0), b.force(7, 2, 0));
        for (int i = 1; i <= 24; i++) {
            C.due("feed " + i, b.feed(8, 0x2020202020202020L), 8 * i);
        }
        C.row("full", "197 -100004 200 -100004 -100002 200", b.feed(5, 0), b.feed(4, 0), b.feed(3, 0), b.feed(1, 0),
            b.feed(0, 0), b.count(10));
        C.row("bytes 0 stand", "-11 192 0", b.canon(0), b.fault(), b.count(10));
    }

    private static void promise12() {
        DioceseBook b = new DioceseBook();
        Check.feed(b, "let fee 1;");
        C.row("DAY", "-100002 -100002 10", b.canon(-1), b.canon(30001), b.count(10));
        C.row("canon", "0 0 1", b.canon(30000), b.count(10), b.count(5));
        C.row("none", "1 -1", b.canon(0), b.fault());
        for (int i = 2; i < 10; i++) {
            C.due("canon " + i, Check.canon(b, 0, " "), i);
        }
        Check.feed(b, "let");
        C.row("full", "-100004 -100002 3 10", b.canon(0), b.canon(30001), b.count(10), b.count(5));
    }

    private static void goodTexts() {
        String[] texts = {"", "   ", "let fee 1;", " let  fee  1 ; ", "let fee1;let fee2;", "bar age<1;", "bar age < 1 ;",
            "bar(age<1);", "bar not age<1;", "bar not not not age>9999;", "bar not(age=0);", "bar age<1 and age<1;",
            "bar age<1and age<1or age<1unless age<1;", "bar age<1 or age<1 and not(age<1 or age<1)unless(age<1);",
            "bar age<0 unless orders=1 or holds>2 and far=3;", "bar rich<1 unless leave=1;",
            "bar((((((((age<1))))))));", "bar((((((((age<1))))))))unless((((((((age<1))))))));",
            "bar (age<1) and ((((((((age<1))))))));".replace("((((((((", "(((((((").replace("))))))))", ")))))))"),
            Check.times(12, "let void 1;"), "let lapse 0024;", "bar age<0000;", "bar not(not(age<1));"};
        for (String text : texts) {
            DioceseBook b = new DioceseBook();
            C.row(text, "0 -1 1", Check.canon(b, 0, text), b.fault(), b.count(5));
        }
    }

    private static void fault(String text, int number, int at) {
        DioceseBook b = new DioceseBook();
        Check.canon(b, 0, "let fee 1;");
        C.due("fault of " + text, Check.fault(b, text), 100 * at + number);
        C.row("text and canons behind " + text, "0 1", b.count(10), b.count(5));
    }

    private static void wordsThatCannotStand() {
        fault("let", 1, 3);
        fault("let  ", 1, 5);
        fault("let fees 1;", 1, 4);
        fault("let fe 1;", 1, 4);
        fault("let feez 1;", 1, 4);
        fault("letz fee 1;", 1, 0);
        fault("letfee 1;", 1, 0);
        fault("lets fee 1;", 1, 0);
        fault("  le fee 1;", 1, 2);
        fault("let ;", 1, 4);
        fault("let fee;", 1, 7);
        fault("let fee", 1, 7);
        fault("let fee 1", 1, 9);
        fault("let fee 1  ", 1, 11);
        fault("let fee 1 2;", 1, 10);
        fault("let fee 1 x;", 1, 10);
        fault("let fee 1;;", 1, 10);
        fault("let fee 1;fee", 1, 10);
        fault("let age 1;", 1, 4);
        fault("bar", 1, 3);
        fault("bar;", 1, 3);
        fault("bar fee<1;", 1, 4);
        fault("bar age;", 1, 7);
        fault("bar age 1;", 1, 8);
        fault("bar age<;", 1, 8);
        fault("bar age<=1;", 1, 8);
        fault("bar age<-1;", 1, 8);
        fault("bar age<1", 1, 9);
        fault("bar age<1 and;", 1, 13);
        fault("bar age<1 or or", 1, 13);
        fault("bar age<1 not age<1;", 1, 10);
        fault("bar age<1 age<1;", 1, 10);
        fault("bar not;", 1, 7);
        fault("bar notage<1;", 1, 4);
        fault("bar age<1 unless;", 1, 16);
        fault("bar age<1 unless age<1 unless age<1;", 1, 23);
        fault("bar unless age<1;", 1, 4);
        fault("bar age<1 orage<1;", 1, 10);
        fault("bar (age<1;", 1, 10);
        fault("bar (age<1 unless age<1);", 1, 11);
        fault("bar age<1);", 1, 9);
        fault("bar ();", 1, 5);
        fault("bar (age)<1;", 1, 8);
        fault("strike", 1, 6);
        fault("strike;", 1, 6);
        fault("strike fee;", 1, 7);
        fault("strike 0", 1, 8);
        fault("strike 0 0;", 1, 9);
        fault("strikes 0;", 1, 0);
        fault("Let fee 1;", 1, 0);
        fault("1", 1, 0);
        fault("99999", 1, 0);
        fault("(", 1, 0);
    }

    private static void numbers() {
        for (int name = 0; name < NAMES.length; name++) {
            DioceseBook b = new DioceseBook();
            String text = "let " + NAMES[name] + " ";
            C.due(text + "least", Check.fault(b, text + "0;"), Check.NONE);
            C.due(text + "most", Check.fault(b, text + MOST[name] + ";"), Check.NONE);
            C.row(text, MOST[name] + " 1", b.force(name, 0, 0), b.force(name, 0, 1));
            C.due(text + "more", Check.fault(b, text + (MOST[name] + 1) + ";"), 100 * text.length() + 2);
        }
        fault("let fee 1000;", 2, 8);
        fault("let fee 00001;", 2, 8);
        fault("let fee 0000000000000000000000001;", 2, 8);
        fault("let fee 4294967297", 2, 8);
        fault("let lapse25", 2, 9);
        fault("bar age<10000;", 2, 8);
        fault("bar age<00000;", 2, 8);
        fault("bar age< 99999x", 2, 9);
        fault("strike 00000;", 2, 7);
        fault("strike 99999;", 2, 7);
    }

    private static void strikesAndClauses() {
        fault("strike 1;", 3, 7);
        fault("strike 9999x", 3, 7);
        fault("strike  0001", 3, 8);
        fault("strike 0;strike 1", 3, 16);
        fault(Check.times(12, "strike 0;") + "let", 4, 108);
        fault(Check.times(12, "strike 0;") + " bar", 4, 109);
        fault(Check.times(12, "strike 0;") + "strike", 4, 108);
        fault(Check.times(12, "strike 0;") + "lets", 1, 108);
        fault(Check.times(12, "strike 0;") + "fee", 1, 108);
        fault(Check.times(12, "strike 0;") + ";", 1, 108);
        fault(Check.times(12, "strike 0;") + "1", 1, 108);
        fault(Check.times(13, "strike 0;") + "#", 4, 108);
        fault(Check.times(11, "strike 0;") + "strike 7;let", 3, 106);
    }

    private static void brackets() {
        fault("bar (((((((((age<1", 5, 12);
        fault("bar ( ((((((((((", 5, 13);
        fault("bar not(not(not(not(not(not(not(not(not(", 5, 39);
        fault("bar age<1 unless (((((((((", 5, 25);
        fault("bar ((((((((age<1(", 1, 17);
        fault("bar ((((((((age<1)))))))));", 1, 25);
        fault("bar ((((((((age<1) and (age<1) and ((", 5, 36);
    }

    private static void bytes() {
        for (int sign = 0; sign < 256; sign++) {
            boolean blank = sign == ' ';
            C.due("byte " + sign, Check.fault(new DioceseBook(), "let fee 1;" + (char) sign),
                blank ? Check.NONE : 1001);
            C.due("byte " + sign + " in a word", Check.fault(new DioceseBook(), "le" + (char) sign + "t fee 1;"), 1);
        }
        fault("let\tfee 1;", 1, 3);
        fault("let fe e 1;", 1, 4);
        fault("let fee 1 1;", 1, 10);
    }

    private static void promise13() {
        DioceseBook b = new DioceseBook();
        C.due("at first", b.fault(), Check.NONE);
        C.due("a fault", Check.fault(b, "let x"), 401);
        b.canon(-1);
        C.due("kept where canon is refused", b.fault(), 4);
        Check.canon(b, 0, "let fee 1;");
        C.due("none", b.fault(), Check.NONE);
        C.due("a fault", Check.fault(b, "#"), 1);
        C.due("at 0", b.fault(), 0);
        C.due("200 bytes", Check.fault(b, Check.times(39, "     ") + "bar a"), 100 * 199 + 1);
        C.due("the end of 200 bytes", Check.fault(b, Check.times(196, " ") + "let "), 100 * 200 + 1);
    }

    private static void promise14() {
        DioceseBook b = new DioceseBook();
        for (int name = 0; name < 8; name++) {
            C.row("at first " + name, AT_FIRST[name] + " -1", b.force(name, 30000, 0), b.force(name, 0, 1));
        }
        C.row("refused", "-100002 -100002 -100002 -100002 -100002 -100002", b.force(8, 0, 0), b.force(-1, 0, 0),
            b.force(0, -1, 0), b.force(0, 30001, 0), b.force(0, 0, 2), b.force(0, 0, -1));
        Check.canon(b, 50, "let fee 1;let fee 2;let steps 5;");
        Check.canon(b, 20, "let fee 3;");
        Check.canon(b, 50, "let fee 4;");
        Check.canon(b, 20, "let fee 5;");
        C.row("by DAYS, then numbers", "0 -1 5 3 5 3 4 2 5 0", b.force(7, 19, 0), b.force(7, 19, 1), b.force(7, 20, 0),
            b.force(7, 20, 1), b.force(7, 49, 0), b.force(7, 49, 1), b.force(7, 50, 0), b.force(7, 50, 1),
            b.force(6, 50, 0), b.force(6, 50, 1));
        Check.canon(b, 60, "strike 2;");
        C.row("clause by clause", "4 2 0", b.force(7, 59, 0), b.force(7, 60, 0), b.force(7, 60, 1));
    }

    private static void promise15() {
        DioceseBook b = new DioceseBook();
        Check.canon(b, 10, "let fee 1;bar age<1;let fee 2;");
        Check.canon(b, 5, "strike 0;");
        Check.canon(b, 20, "strike 1; let fee 3;");
        Check.canon(b, 30, "strike 2; strike 2;");
        C.row("canon 0", "0 0 3 0", b.counts(0, 9), b.counts(0, 10), b.counts(0, 20), b.counts(0, 30));
        C.row("canon 1", "0 1 1 0 1", b.counts(1, 4), b.counts(1, 5), b.counts(1, 19), b.counts(1, 20),
            b.counts(1, 30));
        C.row("canon 2", "0 2 2 0", b.counts(2, 19), b.counts(2, 20), b.counts(2, 29), b.counts(2, 30));
        C.row("canon 3", "0 2", b.counts(3, 29), b.counts(3, 30));
        C.row("refused", "-100001 -100001 -100002 -100002 -100001", b.counts(4, 0), b.counts(-1, 0), b.counts(0, -1),
            b.counts(0, 30001), b.counts(4, -1));
    }

    /** Whether PERSON 0 is BARRED from LIVING 0 on DAY 1000 AS KNOWN now by such a test alone. */
    private static void bar(DioceseBook b, String test, boolean want) {
        int number = b.count(5);
        Check.canon(b, 900, "bar " + test + ";");
        C.due("bar " + test, b.barred(0, 0, 1000, b.count(0)), want ? 100 * number : Check.NONE);
        Check.canon(b, 900, "strike " + number + ";");
    }

    private static DioceseBook priest() {
        DioceseBook b = new DioceseBook();
        b.person(0);
        b.person(0);
        b.living(3, 4, 77);
        b.living(-3, 4, 0);
        b.living(3, -7, 0);
        b.go(2000);
        b.paper(Check.BORN, 281, 0, 0, 0, 0);
        b.paper(Check.PRIESTED, 990, 0, 0, 0, 0);
        b.paper(Check.IN, 950, 1, 0, -4, 0);
        b.paper(Check.IN, 960, 0, 0, -4, 0);
        return b;
    }

    private static void promise16Facts() {
        String[] met = {"age=1", "age>0", "age<2", "orders=10", "orders>9", "orders<11", "rich=77", "rich<78",
            "leave=0", "holds=0", "far=0", "not leave=1", "(age=1 or age=2) and rich=77", "age=1 or age=2 and rich=1",
            "not age=2 and not orders=9", "not (age=1 and rich=1)", "not not age=1", "age=1 and rich=77 and far=0",
            "age=9 or age=8 or age=1", "not(age=9 or not age=1)"};
        String[] unmet = {"age=2", "age>1", "age<1", "orders<10", "orders>10", "rich=78", "rich>77", "leave=1", "holds>0",
            "far>0", "not age=1", "(age=1 or age=2) and rich=1", "age=2 or age=1 and rich=1", "not age=1 or rich=1",
            "not not not age=1", "age=1 and rich=77 and far=1", "not (age=9 or age=1)"};
        for (String test : met) {
            bar(priest(), test, true);
        }
        for (String test : unmet) {
            bar(priest(), test, false);
        }
        DioceseBook b = new DioceseBook();
        b.person(0);
        b.living(0, 0, 0);
        b.go(2000);
        for (String sign : new String[] {"<9999", ">0", "=0"}) {
            DioceseBook other = priest();
            other.paper(Check.VOID, 0, 0, 0, 0, 0);
            other.paper(Check.VOID, 0, 0, 0, 0, 1);
            other.paper(Check.BORN, 1001, 0, 0, 0, 0);
            other.paper(Check.PRIESTED, 1001, 0, 0, 0, 0);
            bar(other, "age" + sign, false);
            bar(other, "orders" + sign, false);
            bar(other, "not age" + sign, true);
            bar(other, "not orders" + sign, true);
        }
        bar(b, "age<9999 or orders<9999", false);
        b.paper(Check.BORN, 1000, 0, 0, 0, 0);
        bar(b, "age=0", true);
        b.paper(Check.PRIESTED, 1000, 0, 0, 0, 0);
        bar(b, "orders=0", true);
        b.paper(Check.LEAVE, 1001, 0, 0, 0, 0);
        bar(b, "leave=0", true);
        b.paper(Check.LEAVE, 1000, 0, 0, 0, 0);
        bar(b, "leave=1", true);
    }

    private static void promise16Unless() {
        DioceseBook b = priest();
        bar(b, "age=1 unless rich=77", false);
        bar(b, "age=1 unless rich=78", true);
        bar(b, "age=2 unless rich=78", false);
        bar(b, "age=2 unless rich=77", false);
        DioceseBook c = priest();
        C.row("refused", "-100001 -100001 -100001 -100001 -100002 -100002 -100002 -100002 -100001 -1",
            c.barred(2, 0, 0, 0), c.barred(-1, 0, 0, 0), c.barred(0, 3, 0, 0), c.barred(0, -1, 0, 0),
            c.barred(0, 0, -1, 0), c.barred(0, 0, 30001, 0), c.barred(0, 0, 0, -1), c.barred(0, 0, 0, 2001),
            c.barred(0, 3, -1, 2001), c.barred(0, 0, 30000, 2000));
    }

    private static void promise16Order() {
        DioceseBook b = priest();
        Check.canon(b, 50, "bar age<99;");
        Check.canon(b, 40, "let fee 1;let fee 2;bar age<2;bar age<99;");
        Check.canon(b, 40, "bar age<99;");
        C.row("the first", "-1 102 102 103 -1", b.barred(0, 0, 39, 2000), b.barred(0, 0, 290, 2000),
            b.barred(0, 0, 1000, 2000), b.barred(0, 0, 1001, 2000), b.barred(0, 0, 280, 2000));
        Check.canon(b, 900, "strike 1;");
        C.due("struck", b.barred(0, 0, 1001, 2000), 200);
        Check.canon(b, 900, "strike 2;");
        C.row("struck too", "0 102", b.barred(0, 0, 1001, 2000), b.barred(0, 0, 899, 2000));
    }

    /** holds and far: other LIVINGS alone, by THE STORY up to that DAY, AS KNOWN. */
    private static void promise16Holders() {
        DioceseBook b = new DioceseBook();
        b.person(0);
        b.person(0);
        b.living(0, 0, 0);
        b.living(10, 10, 0);
        b.living(-5, 0, 0);
        b.go(100);
        b.paper(Check.LEAVE, 0, 0, 0, 0, 0);
        b.paper(Check.IN, 10, 1, 0, -4, 0);
        b.paper(Check.IN, 20, 2, 0, -4, 0);
        b.go(1);
        b.paper(Check.OUT, 30, 1, 0, 0, 0);
        Check.canon(b, 0, "bar holds=2;bar holds=1 and far=20;bar holds=1 and far=25;bar holds=1 and far=5;");
        C.row("of LIVING 0", "-1 1 0 0 0 3", b.barred(0, 0, 9, 100), b.barred(0, 0, 10, 100), b.barred(0, 0, 20, 100),
            b.barred(0, 0, 30, 100), b.barred(0, 0, 30000, 100), b.barred(0, 0, 30, 101));
        C.row("of LIVING 1", "-1 -1 2 2 -1", b.barred(0, 1, 9, 100), b.barred(0, 1, 10, 100), b.barred(0, 1, 20, 100),
            b.barred(0, 1, 30, 101), b.barred(1, 1, 30, 101));
        Check.canon(b, 50, "strike 0;bar far=20;");
        C.row("the most MILES", "101 -1", b.barred(0, 0, 50, 100), b.barred(0, 0, 50, 101));
    }
}
