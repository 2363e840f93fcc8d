import java.util.List;

/** Sentence by sentence, where a boundary is named: section 2 and promises 11 to 16. */
public final class CanonsBoundsTest {
    private static final Sentences S = new Sentences();
    private static final String TWELVE = "let fee 1;".repeat(12);
    private static final String[] NAMES = {"lapse", "miles", "worth", "void", "lapsed", "decay", "steps", "fee"};
    private static final int[] MOST = {24, 99, 999, 1, 1, 2, 999, 999};

    public static void main(String[] args) {
        canonsAndTexts();
        inForceFrom();
        clauses();
        testsTogether();
        namesOfLet();
        signs();
        age();
        orders();
        holdsAndFar();
        richAndLeave();
        withoutAPaper();
        numbers();
        words();
        eachWord();
        blanks();
        strikes();
        firstFault();
        faultsOneByOne();
        thirteenthClause();
        ninthBracket();
        whichCount();
        lastLetRules();
        bars();
        promise11();
        promise12();
        promise13();
        promise14();
        promise15();
        promise16();
        S.end();
    }

    /** What canon answers to a text, and where its FAULT is. */
    private static void reads(String text, int answer, int at) {
        DioceseBook b = new DioceseBook();
        S.due("text '" + text + "'", Check.canon(b, 0, text), answer);
        S.due("fault of '" + text + "'", b.fault(), at);
        S.due("CANONS behind '" + text + "'", b.count(5), answer == 0 ? 1 : 0);
        S.due("THE TEXT behind '" + text + "'", b.count(10), 0);
    }

    private static void good(String... texts) {
        for (String text : texts) {
            reads(text, 0, Check.NONE);
        }
    }

    private static void faulty(String text, int number, int at) {
        reads(text, -10 - number, at);
    }

    private static void canonsAndTexts() {
        S.sentence("CANONS (10 at most) are texts (200 bytes at most each)");
        S.asks(new DioceseBook(), "counts 0 0 -> UNKNOWN", "9 x law 0 let fee 1; -> 8", "counts 9 0 -> UNKNOWN",
            "law 0 let fee 2; -> 9", "counts 9 0 -> 1", "text let fee 3; -> 10", "canon 0 -> FULL", "count 5 -> 10",
            "count 10 -> 10", "counts 10 0 -> UNKNOWN", "force 7 0 0 -> 2");
        good("let fee 1;" + " ".repeat(190), "let fee 1;".repeat(12) + " ".repeat(80),
            "bar" + " ".repeat(190) + "age=0;");
        S.asks(new DioceseBook(), "25 x feed 8 2314885530818453536 -> 200", "feed 1 32 -> FULL", "count 10 -> 200",
            "canon 0 -> 0", "count 10 -> 0", "feed 1 32 -> 1");
    }

    private static void inForceFrom() {
        S.sentence("in force from a DAY told with them on (any; of one DAY as they were told)");
        S.asks(new DioceseBook(), "law 30000 let fee 1; -> 0", "force 7 29999 0 -> 0", "force 7 30000 0 -> 1",
            "law 0 let fee 2; -> 1", "force 7 0 0 -> 2", "force 7 29999 1 -> 1", "force 7 30000 1 -> 0",
            "law 30000 let fee 3; -> 2", "force 7 30000 1 -> 2", "law 0 let fee 4; -> 3", "force 7 0 1 -> 3",
            "force 7 30000 1 -> 2");
    }

    private static void clauses() {
        S.sentence("clause = 'let' name NUMBER ';'   'bar' test ['unless' test] ';'   'strike' NUMBER ';'.");
        good("", " ", "let fee 1;", "bar age=1;", "bar age=1 unless age=2;", "let fee 1;bar age=1;let fee 2;");
        faulty(";", 1, 0);
        faulty("let fee 1", 1, 9);
        faulty("let fee 1;;", 1, 10);
        faulty("let fee;", 1, 7);
        faulty("let 1;", 1, 4);
        faulty("bar;", 1, 3);
        faulty("bar age=1 unless;", 1, 16);
        faulty("bar unless age=1;", 1, 4);
        faulty("bar age=1 unless age=1 unless age=1;", 1, 23);
        faulty("strike;", 1, 6);
        S.sentence("test = both {'or' both}   both = one {'and' one}   one = 'not' one | '(' test ')' | fact ('<' | "
            + "'>' | '=') NUMBER.");
        good("bar age=1 or age=2 or age=3;", "bar age=1 and age=2 and age=3;", "bar not age=1;", "bar not not age=1;",
            "bar not(age=1);", "bar (age=1 or age=2)and age=3;", "bar " + "not ".repeat(47) + "age=1;");
        faulty("bar or age=1;", 1, 4);
        faulty("bar age=1 or;", 1, 12);
        faulty("bar age=1 and;", 1, 13);
        faulty("bar not;", 1, 7);
        faulty("bar ();", 1, 5);
        faulty("bar (age=1;", 1, 10);
        faulty("bar age=1);", 1, 9);
        faulty("bar age;", 1, 7);
        faulty("bar age<;", 1, 8);
        faulty("bar age 1;", 1, 8);
        faulty("bar age<>1;", 1, 8);
        faulty("bar age=1 age=1;", 1, 10);
        faulty("bar age=1 not age=1;", 1, 10);
        faulty("bar <1;", 1, 4);
        faulty("bar 1;", 1, 4);
    }

    /** What a test says where y is met and n is not. */
    private static void test(String letters, boolean met) {
        String test = letters.replace("y", "rich=5").replace("n", "rich=6").replace("!", "not ").replace("&", " and ")
            .replace("|", " or ");
        S.asks(Sentences.book("person 0", "living 0 0 5", "law 0 bar " + test + ";"),
            "barred 0 0 0 0 -> " + (met ? 0 : -1));
    }

    private static void testsTogether() {
        S.sentence("test = both {'or' both}   both = one {'and' one}   one = 'not' one | '(' test ')'");
        for (String met : new String[] {"y", "!n", "!!y", "!!!n", "(y)", "y&y", "!n&y", "y&!n", "y|n", "n|y", "n|n|y",
            "y|n&n", "n&n|y", "!n|y", "!n|n", "y&y&y", "!(n&y)", "!(n|n)", "(n|y)&y", "y&(n|y)", "n|(y&!(n|n))",
            "!(!(!(n)))"}) {
            test(met, true);
        }
        for (String unmet : new String[] {"n", "!y", "!!n", "!!!y", "(n)", "n&y", "y&n", "n&n", "!y&y", "n|n", "y&n|n",
            "n|y&n", "(y|y)&n", "n&(y|y)", "y&y&n", "n&y&y", "y&n&y", "n|n|n", "!(y&y)", "!(y|n)", "!y|n",
            "!(!(!(y)))"}) {
            test(unmet, false);
        }
        test("y|age<0", true);
        test("y&age<0", false);
        test("y&!age<0", true);
        test("y|leave=9999", true);
        test("((((((((y))))))))", true);
        test("((((((((n))))))))", false);
        test("(n|(n|(n|(n|(n|(n|(n|(n|y))))))))", true);
        test("(y&(y&(y&(y&(y&(y&(y&(y&n))))))))", false);
    }

    private static void namesOfLet() {
        S.sentence("Names of let, with what holds at first: lapse 0 .. 24 [6], miles 0 .. 99 [30], worth 0 .. 999 "
            + "[100], void 0 .. 1 [0], lapsed 0 .. 1 [0], decay 0 .. 2 [0], steps 0 .. 999 [0], fee 0 .. 999 [0].");
        S.asks(new DioceseBook(), "force 0 0 0 -> 6", "force 1 0 0 -> 30", "force 2 0 0 -> 100", "force 3 0 0 -> 0",
            "force 4 0 0 -> 0", "force 5 0 0 -> 0", "force 6 0 0 -> 0", "force 7 0 0 -> 0", "force 0 30000 0 -> 6");
        for (int name = 0; name < NAMES.length; name++) {
            String let = "let " + NAMES[name] + " ";
            good(let + "0;", let + MOST[name] + ";");
            faulty(let + (MOST[name] + 1) + ";", 2, let.length());
            faulty(let + "9999;", 2, let.length());
            S.asks(new DioceseBook(), "law 0 " + let + MOST[name] + ";", "force " + name + " 0 0 -> " + MOST[name],
                "law 0 " + let + "0;", "force " + name + " 0 0 -> 0", "force " + name + " 0 1 -> 1");
        }
    }

    private static void signs() {
        S.sentence("fact ('<' | '>' | '=') NUMBER");
        for (int rich = 4; rich <= 6; rich++) {
            S.asks(Sentences.book("person 0", "living 0 0 " + rich, "law 0 bar rich<5;"),
                "barred 0 0 0 0 -> " + (rich < 5 ? 0 : -1));
            S.asks(Sentences.book("person 0", "living 0 0 " + rich, "law 0 bar rich=5;"),
                "barred 0 0 0 0 -> " + (rich == 5 ? 0 : -1));
            S.asks(Sentences.book("person 0", "living 0 0 " + rich, "law 0 bar rich>5;"),
                "barred 0 0 0 0 -> " + (rich > 5 ? 0 : -1));
        }
    }

    private static void age() {
        S.sentence("age (YEARS since BORN)");
        DioceseBook b = Sentences.book("person 0", "living 0 0 0", "go 100", "paper BORN 100 0 0 0 0",
            "law 0 bar age<1;bar age=1;bar age=2;bar age>82;");
        S.asks(b, "barred 0 0 99 100 -> NONE", "barred 0 0 100 100 -> 0", "barred 0 0 459 100 -> 0",
            "barred 0 0 460 100 -> 1", "barred 0 0 819 100 -> 1", "barred 0 0 820 100 -> 2", "barred 0 0 1179 100 -> 2",
            "barred 0 0 1180 100 -> NONE", "barred 0 0 29979 100 -> NONE", "barred 0 0 29980 100 -> 3",
            "barred 0 0 30000 100 -> 3", "barred 0 0 30000 99 -> NONE");
    }

    private static void orders() {
        S.sentence("orders (DAYS since PRIESTED)");
        DioceseBook b = Sentences.book("person 0", "living 0 0 0", "go 100", "paper PRIESTED 100 0 0 0 0",
            "law 0 bar orders<1;bar orders=1;bar orders>9998;");
        S.asks(b, "barred 0 0 99 100 -> NONE", "barred 0 0 100 100 -> 0", "barred 0 0 101 100 -> 1",
            "barred 0 0 102 100 -> NONE", "barred 0 0 10098 100 -> NONE", "barred 0 0 10099 100 -> 2",
            "barred 0 0 30000 100 -> 2");
    }

    private static void holdsAndFar() {
        S.sentence("holds (how many other LIVINGS the PERSON holds)");
        DioceseBook b = Sentences.book("2 x person 0", "living 0 0 0", "living 10 0 0", "living 0 5 0", "go 9",
            "paper LEAVE 0 0 0 0 0", "paper IN 2 0 0 CROWN 0", "paper IN 4 1 0 CROWN 0",
            "law 0 bar holds=0;bar holds=1;bar holds=2;bar holds>2;");
        S.asks(b, "barred 0 0 1 9 -> 0", "barred 0 0 2 9 -> 0", "barred 0 1 2 9 -> 1", "barred 0 2 3 9 -> 1",
            "barred 0 2 4 9 -> 2", "barred 0 0 4 9 -> 1", "barred 0 1 4 9 -> 1", "barred 1 0 4 9 -> 0",
            "paper OUT 5 0 0 0 0 -> 3", "barred 0 2 4 9 -> 2", "barred 0 2 5 9 -> 1");
        S.sentence("far (the most MILES to one of these; 0)");
        DioceseBook c = Sentences.book("2 x person 0", "living 0 0 0", "living 10 0 0", "living 0 5 0", "go 9",
            "paper LEAVE 0 0 0 0 0", "paper IN 2 0 0 CROWN 0", "paper IN 4 1 0 CROWN 0",
            "law 0 bar far=0;bar far=5;bar far=10;bar far=15;bar far>15;");
        S.asks(c, "barred 0 2 1 9 -> 0", "barred 0 2 2 9 -> 1", "barred 0 2 4 9 -> 3", "barred 0 0 4 9 -> 2",
            "barred 0 1 4 9 -> 2", "barred 0 0 3 9 -> 0", "barred 1 2 4 9 -> 0");
    }

    private static void richAndLeave() {
        S.sentence("rich (WORTH of the LIVING)");
        S.asks(Sentences.book("person 0", "living 0 0 0", "living 0 0 999", "law 0 bar rich=0;bar rich=999;bar rich=1;"),
            "barred 0 0 0 0 -> 0", "barred 0 1 0 0 -> 1", "set 0 0 1 -> 0", "barred 0 0 0 0 -> 2", "set 0 0 998 -> 1",
            "barred 0 0 0 0 -> NONE");
        S.sentence("leave (1 if there is a LEAVE by then, else 0)");
        S.asks(Sentences.book("2 x person 0", "living 0 0 0", "go 9", "paper LEAVE 5 0 0 0 0", "paper LEAVE 7 0 0 0 0",
            "law 0 bar leave=1;bar leave=0;"), "barred 0 0 4 9 -> 1", "barred 0 0 5 9 -> 0", "barred 0 0 30000 9 -> 0",
            "barred 0 0 5 8 -> 1", "barred 1 0 9 9 -> 1", "paper VOID 9 0 0 0 0 -> 2", "barred 0 0 6 9 -> 1",
            "barred 0 0 7 9 -> 0");
    }

    private static void withoutAPaper() {
        S.sentence("A test of age, orders of a PERSON without such a PAPER, or of one whose DAY is later, is not met, "
            + "whatever the sign.");
        for (String fact : new String[] {"age", "orders"}) {
            for (String sign : new String[] {"<9999", ">0", "=0"}) {
                S.asks(Sentences.book("2 x person 0", "living 0 0 0", "go 9", "paper BORN 5 0 0 0 0",
                    "paper PRIESTED 5 0 0 0 0", "law 0 bar " + fact + sign + ";", "law 0 bar not " + fact + sign + ";"),
                    "barred 1 0 9 9 -> 100", "barred 0 0 4 9 -> 100", "barred 0 0 9 8 -> 100",
                    "barred 0 0 5 9 -> " + (sign.equals(">0") ? 100 : 0));
            }
        }
    }

    private static void numbers() {
        S.sentence("NUMBERS have one to four figures");
        good("let fee 0;", "let fee 0999;", "bar age<0;", "bar age>9999;", "bar age=0000;");
        faulty("let fee ;", 1, 8);
        faulty("bar age=;", 1, 8);
        faulty("bar age=10000;", 2, 8);
        faulty("bar age=00000;", 2, 8);
        faulty("bar age=-1;", 1, 8);
        faulty("let fee 00000;", 2, 8);
        faulty("let fee " + "9".repeat(192), 2, 8);
        faulty("let fee /;", 1, 8);
        faulty("let fee :;", 1, 8);
        faulty("let fee 1/;", 1, 9);
        faulty("let fee 1:;", 1, 9);
    }

    private static void words() {
        S.sentence("words are letters a .. z side by side");
        faulty("`let fee 1;", 1, 0);
        faulty("{let fee 1;", 1, 0);
        faulty("let fee` 1;", 1, 7);
        faulty("let fee{ 1;", 1, 7);
        faulty("let feea 1;", 1, 4);
        faulty("let feez 1;", 1, 4);
        faulty("LET fee 1;", 1, 0);
        faulty("let fee 1;z", 1, 10);
    }

    /** Of each word of the texts: one letter less, one more, another one first, another one last. */
    private static void eachWord() {
        S.sentence("1 it cannot stand there (a word that cannot: at its first letter).");
        for (String word : new String[] {"let", "bar", "strike"}) {
            unlike("", word, " 0;");
        }
        for (String word : NAMES) {
            unlike("let ", word, " 0;");
        }
        for (String word : new String[] {"age", "orders", "holds", "far", "rich", "leave", "not"}) {
            unlike("bar ", word, "=1;");
        }
        for (String word : new String[] {"or", "and", "unless"}) {
            unlike("bar age=1 ", word, " age=1;");
        }
    }

    private static void unlike(String ahead, String word, String behind) {
        int last = word.length() - 1;
        for (String other : new String[] {word.substring(1), word.substring(0, last), "q" + word, word + "q",
            "q" + word.substring(1), word.substring(0, last) + "q"}) {
            if (!List.of(NAMES).contains(other)) {
                faulty(ahead + other + behind, 1, ahead.length());
            }
        }
    }

    private static void blanks() {
        S.sentence("blanks (32) may stand anywhere but within words and NUMBERS; two words side by side need one.");
        good("  let  fee  1  ;  ", "let fee1;", "bar(age=1)and not(age=2)unless(age=3);", "bar age=1or age=2;",
            "bar ( age < 1 ) ;", "bar age=1unless age=1;");
        faulty("le t fee 1;", 1, 0);
        faulty("let f ee 1;", 1, 4);
        faulty("letfee 1;", 1, 0);
        faulty("let fee 1 1;", 1, 10);
        faulty("bar age=1 orage=1;", 1, 10);
        faulty("bar notage=1;", 1, 4);
        for (int sign = 0; sign < 256; sign++) {
            if (sign == ' ') {
                good((char) sign + "let fee 1;");
            } else {
                faulty((char) sign + " let fee 1;", 1, 0);
            }
        }
    }

    private static void strikes() {
        S.sentence("'strike' k: all clauses of CANON k (one that there is already) hold no more from the DAY of this "
            + "CANON on (a 'strike' within it neither).");
        S.asks(new DioceseBook(), "law 0 strike 0; -> -13", "fault -> 7", "law 5 let fee 1; -> 0",
            "law 0 strike 1; -> -13", "law 9 strike 0; -> 1", "counts 0 8 -> 1", "counts 0 9 -> 0", "force 7 8 0 -> 1",
            "force 7 9 0 -> 0", "law 11 strike 1; -> 2", "counts 0 10 -> 0", "counts 0 11 -> 1", "force 7 11 0 -> 1",
            "counts 1 10 -> 1", "counts 1 11 -> 0", "law 12 strike 3; -> -13", "law 13 strike 2; -> 3",
            "counts 0 12 -> 1", "counts 0 13 -> 0");
        S.asks(new DioceseBook(), "law 20 let fee 1; -> 0", "law 10 strike 0; -> 1", "counts 0 19 -> 0",
            "counts 0 20 -> 0", "counts 1 9 -> 0", "counts 1 10 -> 1");
        S.asks(new DioceseBook(), "9 x law 0 let fee 1; -> 8", "law 1 strike 0;strike 8;strike 0008; -> 9",
            "counts 8 0 -> 1", "counts 8 1 -> 0", "counts 0 1 -> 0", "counts 7 1 -> 1", "counts 9 1 -> 3");
    }

    private static void firstFault() {
        S.sentence("FAULTS, at the first byte that has one (the end at the text's length), of these the least");
        faulty("let", 1, 3);
        faulty("let  ", 1, 5);
        faulty("let fee 1000;let fee 1000;x", 2, 8);
        faulty("let fee 10000 x", 2, 8);
        faulty("strike 5;x", 3, 7);
        faulty("x" + "let fee 1;".repeat(13), 1, 0);
        faulty("strike 10000;", 2, 7);
        faulty("strike 00000;", 2, 7);
        faulty("bar age=1(((((((((", 1, 9);
        faulty("bar ((((((((age=1(", 1, 17);
        faulty(" ".repeat(197) + "let", 1, 200);
        faulty(" ".repeat(199) + "x", 1, 199);
    }

    private static void faultsOneByOne() {
        S.sentence("1 it cannot stand there (a word that cannot: at its first letter).");
        faulty("fee", 1, 0);
        faulty("let fee x;", 1, 8);
        faulty("let fee 1 let fee 1;", 1, 10);
        faulty("let age 1;", 1, 4);
        faulty("bar fee=1;", 1, 4);
        faulty("bar agee=1;", 1, 4);
        S.sentence("2 a NUMBER of five figures or more, or out of the bounds of its name (at its first).");
        good("let fee 999;", "let fee 0001;", "bar age=9999;");
        faulty("let fee 1000;", 2, 8);
        faulty("let  fee  00001;", 2, 10);
        faulty("bar age= 10000;", 2, 9);
        faulty("let lapse 24;let lapse 25;", 2, 23);
        S.sentence("3 a strike of a CANON that there is not (at its first).");
        S.asks(new DioceseBook(), "law 0 -> 0", "law 0 strike 0; -> 1", "law 0 strike  2; -> -13", "fault -> 8",
            "law 0 strike 1; -> 2", "law 0 strike 0;strike 9999; -> -13", "fault -> 16", "law 0 strike 3 -> -13",
            "fault -> 7", "count 5 -> 3");
    }

    private static void thirteenthClause() {
        S.sentence("4 a thirteenth clause (at its first letter).");
        good(TWELVE, TWELVE + " ", "bar age=1;".repeat(12));
        faulty(TWELVE + "let fee 1;", 4, 120);
        faulty(TWELVE + "  bar", 4, 122);
        faulty(TWELVE + "strike 5;", 4, 120);
        faulty(TWELVE + "fee", 1, 120);
        faulty(TWELVE + ";", 1, 120);
        faulty("let fee 1;".repeat(11) + "let fee 1let", 1, 119);
        S.asks(new DioceseBook(), "law 0 " + TWELVE + " -> 0", "counts 0 0 -> 12");
    }

    private static void ninthBracket() {
        S.sentence("5 a bracket that is the ninth one open (at it).");
        good("bar " + "(".repeat(8) + "age=1" + ")".repeat(8) + ";",
            "bar " + "(".repeat(8) + "age=1" + ")".repeat(8) + "unless " + "(".repeat(8) + "age=1" + ")".repeat(8) + ";",
            "bar " + "(".repeat(7) + "(age=1) and (age=1)" + ")".repeat(7) + ";",
            "bar " + "(age=1) or ".repeat(12) + "age=1;", "bar " + "not(".repeat(8) + "age=1" + ")".repeat(8) + ";");
        faulty("bar " + "(".repeat(9) + "age=1" + ")".repeat(9) + ";", 5, 12);
        faulty("bar " + "(".repeat(12), 5, 12);
        faulty("bar " + "( ".repeat(9), 5, 20);
        faulty("bar " + "not(".repeat(9), 5, 39);
        faulty("bar age=1 unless " + "(".repeat(9), 5, 25);
        faulty("bar " + "(".repeat(7) + "(age=1) and ((", 5, 24);
        faulty("bar " + "(".repeat(8) + "age=1" + ")".repeat(9) + ";", 1, 25);
    }

    private static void whichCount() {
        S.sentence("On a DAY: of those CANONS whose DAY is not after it, from the last number down, one that is not "
            + "struck by one that counts, counts, with all its clauses.");
        S.asks(new DioceseBook(), "law 10 let fee 1;bar age=1; -> 0", "law 20 strike 0; -> 1", "law 30 strike 1; -> 2",
            "law 25 strike 2; -> 3", "counts 0 9 -> 0", "counts 0 10 -> 2", "counts 0 19 -> 2", "counts 0 20 -> 0",
            "counts 1 19 -> 0", "counts 1 20 -> 1", "counts 3 24 -> 0", "counts 3 25 -> 1", "counts 2 29 -> 0",
            "counts 2 30 -> 0", "counts 1 30 -> 1", "counts 0 30 -> 0", "counts 0 30000 -> 0");
    }

    private static void lastLetRules() {
        S.sentence("They follow one another by DAYS, then numbers, clause by clause; of a name the last let rules.");
        S.asks(new DioceseBook(), "law 20 let fee 1;let fee 2;", "force 7 20 0 -> 2", "law 10 let fee 3;",
            "force 7 20 0 -> 2", "force 7 19 0 -> 3", "law 20 let fee 4;", "force 7 20 0 -> 4", "force 7 20 1 -> 2",
            "law 10 let fee 5;", "force 7 10 1 -> 3", "force 7 20 1 -> 2", "law 20 let lapse 1;", "force 7 20 1 -> 2",
            "force 0 20 1 -> 4");
    }

    private static void bars() {
        S.sentence("A PERSON is BARRED from a LIVING on a DAY, if some bar that counts is met (its test, and not that "
            + "behind unless).");
        String[] unless = {"bar rich=5 unless leave=0;", "bar rich=5 unless leave=1;", "bar rich=6 unless leave=1;",
            "bar rich=6 unless leave=0;", "bar rich=5;"};
        int[] want = {-1, 0, -1, -1, 0};
        for (int k = 0; k < want.length; k++) {
            S.asks(Sentences.book("person 0", "living 0 0 5", "law 10 " + unless[k], "law 20 strike 0;"),
                "barred 0 0 9 0 -> NONE", "barred 0 0 10 0 -> " + want[k], "barred 0 0 19 0 -> " + want[k],
                "barred 0 0 20 0 -> NONE");
        }
    }

    private static void promise11() {
        S.sentence("Up to eight bytes (n 1 .. 8) of a long, the highest of these first, come behind THE TEXT: how many "
            + "it has. OUTSIDE, FULL.");
        S.asks(new DioceseBook(), "feed 0 0 -> OUTSIDE", "feed 9 0 -> OUTSIDE", "feed -1 0 -> OUTSIDE", "count 10 -> 0",
            "feed 1 -148 -> 1", "feed 1 -155 -> 2", "feed 2 29728 -> 4", "feed 6 4702433546602557746 -> 10",
            "feed 1 59 -> 11", "canon 0 -> 0", "force 7 0 0 -> 12");
        S.asks(new DioceseBook(), "24 x feed 8 -1 -> 192", "feed 7 -1 -> 199", "feed 2 0 -> FULL", "feed 8 0 -> FULL",
            "feed 9 0 -> OUTSIDE", "feed 0 0 -> OUTSIDE", "count 10 -> 199", "feed 1 0 -> 200", "feed 1 0 -> FULL",
            "feed 9 0 -> OUTSIDE", "count 10 -> 200", "canon 0 -> -11", "fault -> 0", "feed 8 0 -> 8");
        S.asks(new DioceseBook(), "24 x feed 8 2314885530818453536 -> 192", "feed 8 2314885530818453536 -> 200",
            "canon 0 -> 0");
    }

    private static void promise12() {
        S.sentence("THE TEXT (it is empty then) becomes a CANON, in force from a DAY (0 .. 30000) on: its number; -10 "
            + "less the number of its FAULT. OUTSIDE (THE TEXT stays), FULL (likewise).");
        S.asks(new DioceseBook(), "text let fee 1; -> 10", "canon -1 -> OUTSIDE", "canon 30001 -> OUTSIDE",
            "count 10 -> 10", "count 5 -> 0", "canon 30000 -> 0", "count 10 -> 0", "canon 0 -> 1", "count 5 -> 2",
            "counts 1 0 -> 0", "law 0 let -> -11", "count 10 -> 0", "count 5 -> 2", "law 0 let fee 1000; -> -12",
            "law 0 strike 2; -> -13", "law 0 " + TWELVE + "let -> -14", "law 0 bar ((((((((( -> -15", "count 5 -> 2",
            "force 7 30000 0 -> 1");
        S.asks(Sentences.book("10 x canon 0"), "text let -> 3", "canon 0 -> FULL", "canon 30001 -> OUTSIDE",
            "canon -1 -> OUTSIDE", "fault -> NONE", "count 10 -> 3", "count 5 -> 10", "feed 1 32 -> 4");
    }

    private static void promise13() {
        S.sentence("The byte of the FAULT of the latest canon() that was not refused otherwise; NONE.");
        S.asks(new DioceseBook(), "fault -> NONE", "canon -1 -> OUTSIDE", "fault -> NONE", "law 0 let -> -11",
            "fault -> 3", "text let fee x; -> 10", "fault -> 3", "canon 30001 -> OUTSIDE", "fault -> 3", "canon 0 -> -11",
            "fault -> 8", "canon 0 -> 0", "fault -> NONE", "law 0 x -> -11", "fault -> 0");
        S.asks(Sentences.book("9 x canon 0"), "law 0 let x -> -11", "fault -> 4", "canon 0 -> 9", "fault -> NONE",
            "text x", "canon 0 -> FULL", "fault -> NONE");
    }

    private static void promise14() {
        S.sentence("What holds of a name (0 lapse, 1 miles, 2 worth, 3 void, 4 lapsed, 5 decay, 6 steps, 7 fee) on a "
            + "DAY: what = 0 the NUMBER, 1 the CANON that rules (NONE). OUTSIDE.");
        S.asks(Sentences.book("law 5 let lapse 0;"), "force 0 4 0 -> 6", "force 0 4 1 -> NONE", "force 0 5 0 -> 0",
            "force 0 5 1 -> 0", "force 0 30000 1 -> 0", "force 0 0 1 -> NONE", "force 7 0 1 -> NONE",
            "force 8 0 0 -> OUTSIDE", "force -1 0 0 -> OUTSIDE", "force 0 -1 0 -> OUTSIDE", "force 0 30001 0 -> OUTSIDE",
            "force 0 0 2 -> OUTSIDE", "force 0 0 -1 -> OUTSIDE");
    }

    private static void promise15() {
        S.sentence("How many clauses of a CANON count on a DAY. UNKNOWN, OUTSIDE.");
        S.asks(Sentences.book("law 5 " + TWELVE, "law 30000 strike 0;"), "counts 0 4 -> 0", "counts 0 5 -> 12",
            "counts 0 29999 -> 12", "counts 0 30000 -> 0", "counts 0 0 -> 0", "counts 1 29999 -> 0",
            "counts 1 30000 -> 1", "counts 2 0 -> UNKNOWN", "counts -1 0 -> UNKNOWN", "counts 0 -1 -> OUTSIDE",
            "counts 0 30001 -> OUTSIDE", "counts 2 30001 -> UNKNOWN");
    }

    private static void promise16() {
        S.sentence("NONE, or 100 times the CANON and the clause of the first bar that is met. UNKNOWN, OUTSIDE.");
        DioceseBook b = Sentences.book("person 0", "living 0 0 0", "9 x canon 0",
            "law 100 " + "bar rich=1;".repeat(11) + "bar rich=0;", "go 9");
        S.asks(b, "barred 0 0 99 0 -> NONE", "barred 0 0 100 0 -> 911", "barred 0 0 30000 9 -> 911",
            "barred 0 0 0 9 -> NONE", "barred 1 0 0 0 -> UNKNOWN", "barred -1 0 0 0 -> UNKNOWN",
            "barred 0 1 0 0 -> UNKNOWN", "barred 0 -1 0 0 -> UNKNOWN", "barred 0 0 -1 0 -> OUTSIDE",
            "barred 0 0 30001 0 -> OUTSIDE", "barred 0 0 0 -1 -> OUTSIDE", "barred 0 0 0 10 -> OUTSIDE",
            "barred 0 1 30001 10 -> UNKNOWN", "set 0 0 1 -> 0", "barred 0 0 100 9 -> 900");
        S.asks(b, "set 0 0 2 -> 1", "barred 0 0 100 9 -> NONE");
        S.asks(Sentences.book("person 0", "living 0 0 0", "law 0 bar rich=0;"), "barred 0 0 0 0 -> 0");
        S.asks(Sentences.book("person 0", "living 0 0 0", "law 0 bar rich=0 unless leave=1;", "law 0 let fee 1;"),
            "law 0 bar rich=1;bar rich=0; -> 2", "barred 0 0 0 0 -> 0", "set 0 0 1 -> 0", "barred 0 0 0 0 -> 200",
            "law 0 bar rich=2;bar rich=2;bar rich=2;x -> -11", "barred 0 0 0 0 -> 200", "set 0 0 2 -> 1",
            "barred 0 0 0 0 -> NONE", "law 0 bar rich=3; -> 3", "barred 0 0 0 0 -> NONE", "set 0 0 3 -> 2",
            "barred 0 0 0 0 -> 300", "counts 3 0 -> 1");
        S.sentence("AS KNOWN on another one (HOLDERS by THE STORY up to that DAY)");
        DioceseBook c = Sentences.book("person 0", "living 0 0 0", "living 0 0 0", "law 0 bar holds=1;", "go 9",
            "paper IN 5 0 0 CROWN 0", "go 1", "paper OUT 7 0 0 0 0");
        S.asks(c, "barred 0 1 4 9 -> NONE", "barred 0 1 5 9 -> 0", "barred 0 1 5 8 -> NONE", "barred 0 1 30000 9 -> 0",
            "barred 0 1 6 10 -> 0", "barred 0 1 7 10 -> NONE");
    }
}
