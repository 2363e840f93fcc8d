/** Sentence by sentence, where a boundary is named: section 5 and promises 28 to 33. */
public final class LandBoundsTest {
    private static final Sentences S = new Sentences();

    public static void main(String[] args) {
        fieldsOfATerrier();
        costOfAPair();
        costAlone();
        firstMatch();
        piecesInBounds();
        ahead();
        one();
        fewestRows();
        theLife();
        visitation();
        thePlan();
        promise28();
        promise29();
        promise30();
        promise31();
        promise32();
        promise33();
        S.end();
    }

    private static void fieldsOfATerrier() {
        S.sentence("TERRIERS: of each LIVING lists of fields of an OLD and a NEW year (8 each at most): a NAME (0 .. "
            + "99), ACRES (1 .. 999), a NEIGHBOUR's NAME (0 .. 99).");
        DioceseBook b = Sentences.book("12 x living 0 0 0");
        S.asks(b, "7 x field 11 0 99 999 99 -> 6", "match 11 7 -> NONE", "field 11 0 0 1 0 -> 7",
            "field 11 0 0 1 0 -> FULL", "8 x field 11 1 0 1 0 -> 7", "field 11 1 0 1 0 -> FULL", "match 11 7 -> 0",
            "field 10 0 0 1 0 -> 0", "field 0 1 0 1 0 -> 0", "match 11 8 -> NONE");
        S.asks(b, "field 0 0 -1 1 0 -> OUTSIDE", "field 0 0 100 1 0 -> OUTSIDE", "field 0 0 0 0 0 -> OUTSIDE",
            "field 0 0 0 1000 0 -> OUTSIDE", "field 0 0 0 1 -1 -> OUTSIDE", "field 0 0 0 1 100 -> OUTSIDE",
            "field 0 -1 0 1 0 -> OUTSIDE", "field 0 2 0 1 0 -> OUTSIDE", "field 0 0 0 1 0 -> 0");
    }

    /** The cost of one OLD field and one NEW one. */
    private static void cost(String old, String young, int want, int partner) {
        S.asks(Sentences.book("living 0 0 0", "field 0 0 " + old, "field 0 1 " + young), "match 0 NONE -> " + want,
            "match 0 0 -> " + partner);
    }

    private static void costOfAPair() {
        S.sentence("To match two fields costs the size of the difference of ACRES, 7 more if NAMES are unlike, 3 more "
            + "if NEIGHBOURS are");
        cost("0 50 0", "0 50 0", 0, 0);
        cost("0 50 0", "0 51 0", 1, 0);
        cost("0 51 0", "0 50 0", 1, 0);
        cost("0 50 0", "1 50 0", 7, 0);
        cost("0 50 0", "0 50 1", 3, 0);
        cost("1 50 1", "0 50 0", 10, 0);
        cost("99 999 99", "99 999 99", 0, 0);
        cost("99 999 99", "0 989 0", 20, 0);
    }

    private static void costAlone() {
        S.sentence("a field left alone costs 10 and a tenth of its ACRES, cut.");
        int[] acres = {1, 9, 10, 19, 20, 99, 100, 999};
        int[] want = {10, 10, 11, 11, 12, 19, 20, 109};
        for (int k = 0; k < acres.length; k++) {
            S.asks(Sentences.book("living 0 0 0", "field 0 0 0 " + acres[k] + " 0"), "match 0 NONE -> " + want[k],
                "match 0 0 -> NONE");
            S.asks(Sentences.book("living 0 0 0", "field 0 1 0 " + acres[k] + " 0"), "match 0 NONE -> " + want[k],
                "match 0 0 -> NONE");
        }
        cost("0 1 0", "0 999 0", 119, -1);
        cost("0 999 0", "99 1 99", 119, -1);
    }

    private static void firstMatch() {
        S.sentence("THE MATCH: the least cost; of several the first (by OLD fields, the lesser NEW one, alone last).");
        cost("0 9 0", "1 21 1", 22, 0);
        cost("0 9 0", "1 22 1", 22, -1);
        cost("0 9 0", "1 20 1", 21, 0);
        S.asks(Sentences.book("living 0 0 0", "2 x field 0 0 5 9 5", "field 0 1 5 9 5"), "match 0 NONE -> 10",
            "match 0 0 -> 0", "match 0 1 -> NONE");
        S.asks(Sentences.book("living 0 0 0", "field 0 0 5 9 5", "2 x field 0 1 5 9 5"), "match 0 NONE -> 10",
            "match 0 0 -> 0");
        S.asks(Sentences.book("living 0 0 0", "field 0 0 5 20 5", "field 0 0 5 10 5", "2 x field 0 1 5 15 5"),
            "match 0 NONE -> 10", "match 0 0 -> 0", "match 0 1 -> 1");
        S.asks(Sentences.book("living 0 0 0", "field 0 0 1 9 1", "field 0 0 2 9 2", "field 0 1 2 9 2", "field 0 1 1 9 1"),
            "match 0 NONE -> 0", "match 0 0 -> 1", "match 0 1 -> 0");
        S.asks(Sentences.book("living 0 0 0", "field 0 0 5 9 5", "field 0 1 6 9 6", "field 0 1 5 9 5"),
            "match 0 NONE -> 10", "match 0 0 -> 1");
        S.asks(Sentences.book("living 0 0 0", "field 0 0 1 5 1", "field 0 0 2 5 2", "field 0 1 1 5 1"),
            "match 0 NONE -> 10", "match 0 0 -> 0", "match 0 1 -> NONE");
        DioceseBook last = Sentences.book("12 x living 0 0 0", "field 5 0 1 1 1", "field 5 1 2 99 2", "field 11 0 3 30 3",
            "field 11 0 4 40 4", "field 11 1 4 41 4", "field 11 1 3 33 3", "field 11 1 5 9 5", "field 6 0 3 30 3");
        S.asks(last, "match 11 NONE -> 14", "match 11 0 -> 1", "match 11 1 -> 0", "match 11 2 -> NONE",
            "match 5 NONE -> 29", "match 5 0 -> NONE", "match 6 NONE -> 13", "match 6 0 -> NONE", "match 11 0 -> 1",
            "match 10 NONE -> 0");
        DioceseBook full = Sentences.book("living 0 0 0");
        for (int k = 0; k < 8; k++) {
            S.asks(full, "field 0 0 " + k + " 500 " + k, "field 0 1 " + (7 - k) + " 500 " + (7 - k));
        }
        S.asks(full, "match 0 NONE -> 0", "match 0 0 -> 7", "match 0 7 -> 0");
        DioceseBook like = Sentences.book("living 0 0 0", "8 x field 0 0 1 5 1", "8 x field 0 1 1 5 1");
        S.asks(like, "match 0 NONE -> 0", "match 0 0 -> 0", "match 0 7 -> 7");
        DioceseBook far = Sentences.book("living 0 0 0", "8 x field 0 0 1 999 1", "8 x field 0 1 2 1 2");
        S.asks(far, "match 0 NONE -> 952", "match 0 0 -> NONE", "match 0 7 -> NONE");
    }

    private static void piecesInBounds() {
        S.sentence("PIECES (16 at most) of lives: a NAME (0 .. 99), a place (x, y), from a DAY to one.");
        S.asks(new DioceseBook(), "lives 0 -> UNKNOWN", "15 x piece 99 -50 50 0 30000 -> 14", "lives 15 -> UNKNOWN",
            "piece 0 50 -50 30000 30000 -> 15", "piece 0 0 0 0 0 -> FULL", "count 7 -> 16", "lives 15 -> NONE",
            "lives 16 -> UNKNOWN", "lives NONE -> 16", "one 15 16 -> UNKNOWN");
        S.asks(new DioceseBook(), "piece 0 0 0 0 0 -> 0", "piece -1 0 0 0 0 -> OUTSIDE", "piece 100 0 0 0 0 -> OUTSIDE",
            "piece 0 -51 0 0 0 -> OUTSIDE", "piece 0 51 0 0 0 -> OUTSIDE", "piece 0 0 -51 0 0 -> OUTSIDE",
            "piece 0 0 51 0 0 -> OUTSIDE", "piece 0 0 0 -1 0 -> OUTSIDE", "piece 0 0 0 30001 30001 -> OUTSIDE",
            "piece 0 0 0 0 30001 -> OUTSIDE", "piece 0 0 0 1 0 -> OUTSIDE", "count 7 -> 1");
    }

    /** Whether two PIECES of one NAME and place may be ONE, asked either way. */
    private static void joins(String a, String b, int want) {
        S.asks(Sentences.book("piece 7 " + a, "piece 7 " + b), "one 0 1 -> " + want, "one 1 0 -> " + want);
    }

    private static void ahead() {
        S.sentence("A PIECE is AHEAD of another one, if it ends on or before the DAY on which that begins (if both are "
            + "of one and the same single DAY: if its number is less).");
        joins("0 0 10 20", "0 0 21 30", 1);
        joins("0 0 10 20", "0 0 20 30", 1);
        joins("0 0 10 20", "0 0 19 30", 0);
        joins("0 0 20 30", "0 0 10 20", 1);
        joins("0 0 10 20", "0 0 10 20", 0);
        joins("0 0 10 20", "0 0 10 10", 1);
        joins("0 0 10 20", "0 0 20 20", 1);
        joins("0 0 10 20", "0 0 15 15", 0);
        joins("0 0 0 0", "0 0 30000 30000", 1);
        S.asks(Sentences.book("2 x piece 7 0 0 5 5"), "one 0 1 -> 1", "one 1 0 -> 1", "lives NONE -> 1", "lives 0 -> 1",
            "lives 1 -> NONE");
        S.asks(Sentences.book("piece 7 0 0 5 6", "piece 7 0 0 5 5"), "one 0 1 -> 1", "lives 0 -> NONE", "lives 1 -> 0");
    }

    private static void one() {
        S.sentence("Two are ONE, if NAMES are like, one is AHEAD of the other one, and of the DAYS between them "
            + "(beginning of the latter less the end of the former) there is one at least for each 20 MILES begun "
            + "between them.");
        joins("0 0 0 10", "0 0 10 20", 1);
        joins("0 0 0 10", "1 0 10 20", 0);
        joins("0 0 0 10", "1 0 11 20", 1);
        joins("0 0 0 10", "10 -10 11 20", 1);
        joins("0 0 0 10", "10 -11 11 20", 0);
        joins("0 0 0 10", "10 -11 12 20", 1);
        joins("0 0 0 10", "-20 20 11 20", 0);
        joins("0 0 0 10", "-20 20 12 20", 1);
        joins("0 0 0 10", "-20 21 12 20", 0);
        joins("-50 -50 0 10", "50 50 19 20", 0);
        joins("-50 -50 0 10", "50 50 20 20", 1);
        S.asks(Sentences.book("piece 0 0 0 0 10", "piece 99 0 0 10 20", "piece 0 0 0 10 20"), "one 0 1 -> 0",
            "one 0 2 -> 1", "one 1 2 -> 0");
        S.asks(Sentences.book("piece 0 0 0 5 5", "piece 0 0 1 5 5"), "one 0 1 -> 0", "lives NONE -> 2");
    }

    private static void fewestRows() {
        S.sentence("LIVES: the fewest rows of PIECES, each next one ONE with the one right ahead of it, that is AHEAD "
            + "of it, all PIECES in one row each.");
        S.asks(new DioceseBook(), "lives NONE -> 0");
        S.asks(Sentences.book("piece 0 0 0 0 0"), "lives NONE -> 1");
        S.asks(Sentences.book("16 x piece 0 0 0 5 5"), "lives NONE -> 1", "lives 0 -> 1", "lives 14 -> 15",
            "lives 15 -> NONE");
        S.asks(Sentences.book("16 x piece 0 0 0 5 6"), "lives NONE -> 16", "lives 0 -> NONE", "lives 15 -> NONE");
        S.asks(Sentences.book("8 x piece 0 0 0 5 6", "8 x piece 0 0 0 6 7"), "lives NONE -> 8", "lives 0 -> 8",
            "lives 7 -> 15", "lives 8 -> NONE");
        S.asks(Sentences.book("piece 0 0 0 0 10", "piece 0 1 0 10 20", "piece 0 1 0 11 20"), "lives NONE -> 2",
            "lives 0 -> 2", "lives 1 -> NONE");
    }

    private static void theLife() {
        S.sentence("THE LIFE of a PIECE: which PIECE comes behind it in such rows; of several ways the first (by "
            + "PIECES by numbers: the least that may come behind, none last).");
        S.asks(Sentences.book("piece 0 0 0 0 10", "3 x piece 0 0 0 20 30"), "lives NONE -> 3", "lives 0 -> 1",
            "lives 1 -> NONE");
        S.asks(Sentences.book("3 x piece 0 0 0 0 10", "piece 0 0 0 20 30"), "lives NONE -> 3", "lives 0 -> 3",
            "lives 1 -> NONE", "lives 2 -> NONE");
        S.asks(Sentences.book("piece 0 0 0 20 30", "2 x piece 0 0 0 0 10"), "lives NONE -> 2", "lives 0 -> NONE",
            "lives 1 -> 0", "lives 2 -> NONE");
        S.asks(Sentences.book("piece 0 0 0 0 10", "piece 0 50 50 0 10", "piece 0 0 0 15 30", "piece 0 -50 -50 11 30",
            "piece 0 0 0 10 30"), "lives NONE -> 3", "lives 0 -> 4", "lives 1 -> 2", "lives 2 -> NONE");
    }

    private static void visitation() {
        S.sentence("A VISITATION of a SET of LIVINGS (8 at most) by RIDES of DAYS: each DAY from THE SEE to some of "
            + "them, one after the other, and back, MILES (1 .. 999) at most; each is seen once.");
        DioceseBook b = Sentences.book("8 x living 5 0 0", "4 x living 0 50 0");
        S.asks(b, "plan 255 10 NONE -> 1", "plan 255 9 NONE -> NOT", "plan 255 10 -2 -> 10", "plan 255 10 0 -> 255",
            "plan 511 10 NONE -> OUTSIDE", "plan 4095 999 NONE -> OUTSIDE", "plan 0 10 NONE -> OUTSIDE",
            "plan 4080 109 NONE -> 2", "plan 4080 110 NONE -> 1", "plan 4080 999 NONE -> 1",
            "plan 4080 1000 NONE -> OUTSIDE", "plan 1 0 NONE -> OUTSIDE", "plan 1 1 NONE -> NOT");
        DioceseBook round = Sentences.book("living 10 0 0", "living -10 0 0", "living 20 0 0");
        S.asks(round, "plan 3 40 NONE -> 1", "plan 3 39 NONE -> 2", "plan 3 20 NONE -> 2", "plan 3 19 NONE -> NOT",
            "plan 7 60 NONE -> 1", "plan 7 59 NONE -> 2", "plan 7 39 NONE -> NOT", "plan 5 40 -2 -> 40");
        DioceseBook middle = Sentences.book("living 50 50 0", "living 50 0 0", "living 0 50 0");
        S.asks(middle, "plan 7 200 NONE -> 1", "plan 7 200 -2 -> 200", "plan 7 999 -2 -> 200", "plan 7 199 NONE -> NOT",
            "plan 6 199 NONE -> 2", "plan 6 200 NONE -> 1");
        DioceseBook corners = Sentences.book("2 x living 50 50 0", "2 x living -50 -50 0", "2 x living 50 -50 0",
            "2 x living -50 50 0");
        S.asks(corners, "plan 255 999 -2 -> 500", "plan 255 500 NONE -> 1", "plan 255 499 NONE -> 2",
            "plan 255 200 NONE -> 4", "plan 255 199 NONE -> NOT", "plan 1 200 NONE -> 1");
    }

    private static void thePlan() {
        S.sentence("THE PLAN: the fewest DAYS; of like ones the fewest MILES in all; of these that whose first DAY has "
            + "the least SET, and so on.");
        DioceseBook b = Sentences.book("living 10 0 0", "living 20 0 0", "living 30 0 0", "living -10 0 0",
            "living 0 50 0");
        S.asks(b, "plan 15 80 NONE -> 1", "plan 15 79 NONE -> 2", "plan 15 79 -2 -> 80", "plan 15 79 0 -> 7",
            "plan 15 79 1 -> 8", "plan 15 79 2 -> 0", "plan 31 179 NONE -> 2", "plan 31 179 -2 -> 180",
            "plan 31 179 0 -> 7", "plan 31 179 1 -> 24", "plan 31 180 NONE -> 1", "plan 31 180 -2 -> 180");
        DioceseBook see = Sentences.book("living 0 0 0", "living 50 0 0", "living -50 0 0");
        S.asks(see, "plan 7 100 NONE -> 2", "plan 7 100 -2 -> 200", "plan 7 100 0 -> 2", "plan 7 100 1 -> 5",
            "plan 7 100 2 -> 0");
        DioceseBook apart = new DioceseBook();
        for (int l = 0; l < 12; l++) {
            S.asks(apart, "living " + (l % 2 == 0 ? 50 : -50) + " " + (l % 4 < 2 ? 50 : -50) + " 0");
        }
        S.asks(apart, "plan 4080 200 NONE -> 4", "plan 4080 200 -2 -> 800", "plan 4080 200 0 -> 272",
            "plan 4080 200 1 -> 544", "plan 4080 200 2 -> 1088", "plan 4080 200 3 -> 2176", "plan 4080 200 4 -> 0");
    }

    private static void promise28() {
        S.sentence("A field of a LIVING, OLD (year = 0) or NEW (1): its number. UNKNOWN, OUTSIDE, FULL.");
        DioceseBook b = Sentences.book("2 x living 0 0 0");
        S.asks(b, "field 2 0 0 1 0 -> UNKNOWN", "field -1 0 0 1 0 -> UNKNOWN", "field 2 2 100 0 100 -> UNKNOWN",
            "field 0 0 0 1 0 -> 0", "field 0 1 99 999 99 -> 0", "field 1 0 0 1 0 -> 0", "7 x field 0 0 0 1 0 -> 7",
            "field 0 0 0 1 0 -> FULL", "field 0 0 0 0 0 -> OUTSIDE", "field 0 0 100 1 0 -> OUTSIDE",
            "field 0 2 0 1 0 -> OUTSIDE", "field 2 0 0 1 0 -> UNKNOWN", "field 0 1 0 1 0 -> 1", "field 1 0 0 1 0 -> 1");
    }

    private static void promise29() {
        S.sentence("THE MATCH of a LIVING: i = NONE its cost, else the NEW field of OLD field i; NONE: it is alone, or "
            + "there is none such. UNKNOWN.");
        DioceseBook b = Sentences.book("2 x living 0 0 0");
        S.asks(b, "match 0 NONE -> 0", "match 0 0 -> NONE", "match 2 NONE -> UNKNOWN", "match -1 NONE -> UNKNOWN",
            "match 2 -2 -> UNKNOWN", "field 0 1 5 9 5", "match 0 NONE -> 10", "match 0 0 -> NONE", "field 0 0 5 9 5",
            "match 0 NONE -> 0", "match 0 0 -> 0", "match 0 1 -> NONE", "match 0 7 -> NONE", "match 0 8 -> NONE",
            "match 0 -2 -> NONE", "match 0 2147483647 -> NONE", "match 0 -2147483648 -> NONE", "match 1 NONE -> 0",
            "match 1 0 -> NONE", "match 0 NONE -> 0");
    }

    private static void promise30() {
        S.sentence("A PIECE: its number. OUTSIDE (also the end below the beginning), FULL.");
        S.asks(new DioceseBook(), "piece 0 0 0 5 4 -> OUTSIDE", "piece 0 0 0 5 5 -> 0", "piece 0 0 0 0 30000 -> 1",
            "piece 99 50 50 30000 30000 -> 2", "piece 0 0 0 30000 29999 -> OUTSIDE", "13 x piece 0 0 0 5 6 -> 15",
            "piece 0 0 0 5 6 -> FULL", "piece 0 0 0 6 5 -> OUTSIDE", "piece 100 0 0 5 6 -> OUTSIDE", "count 7 -> 16");
    }

    private static void promise31() {
        S.sentence("Whether two PIECES may be ONE: 1, 0 (0 of one and itself). UNKNOWN.");
        S.asks(Sentences.book("piece 0 0 0 5 5", "piece 0 0 0 5 9", "piece 0 0 0 0 5"), "one 0 0 -> 0", "one 1 1 -> 0",
            "one 2 2 -> 0", "one 0 1 -> 1", "one 1 2 -> 1", "one 3 0 -> UNKNOWN", "one 0 3 -> UNKNOWN",
            "one -1 0 -> UNKNOWN", "one 0 -1 -> UNKNOWN", "one 3 3 -> UNKNOWN");
        S.asks(new DioceseBook(), "one 0 0 -> UNKNOWN");
    }

    private static void promise32() {
        S.sentence("LIVES: i = NONE how many, else the PIECE behind PIECE i (NONE: none). UNKNOWN (the PIECE).");
        S.asks(new DioceseBook(), "lives NONE -> 0", "lives 0 -> UNKNOWN", "lives -2 -> UNKNOWN", "piece 0 0 0 0 1",
            "lives NONE -> 1", "lives 0 -> NONE", "lives 1 -> UNKNOWN", "piece 0 0 0 1 2", "lives NONE -> 1",
            "lives 0 -> 1", "lives 1 -> NONE", "lives 2 -> UNKNOWN", "lives -2 -> UNKNOWN");
    }

    private static void promise33() {
        S.sentence("THE PLAN: day = NONE how many DAYS, -2 MILES in all, else the SET of that DAY (0: behind the last "
            + "one). UNKNOWN (LIVINGS of the SET), OUTSIDE (more than 8, none; MILES; DAYS below -2); NOT: some "
            + "cannot be seen.");
        DioceseBook b = Sentences.book("9 x living 5 0 0");
        S.asks(b, "plan 1 10 NONE -> 1", "plan 1 10 -2 -> 10", "plan 1 10 0 -> 1", "plan 1 10 1 -> 0", "plan 1 10 7 -> 0",
            "plan 1 10 8 -> 0", "plan 1 10 9 -> 0", "plan 1 10 2147483647 -> 0", "plan 1 10 -3 -> OUTSIDE",
            "plan 1 10 -2147483648 -> OUTSIDE", "plan 512 10 0 -> UNKNOWN", "plan -1 10 0 -> UNKNOWN",
            "plan -2147483648 10 0 -> UNKNOWN", "plan 512 0 -3 -> UNKNOWN", "plan 511 10 0 -> OUTSIDE",
            "plan 510 10 0 -> 510", "plan 255 10 0 -> 255", "plan 0 10 0 -> OUTSIDE", "plan 1 0 0 -> OUTSIDE",
            "plan 1 1000 0 -> OUTSIDE", "plan 1 999 0 -> 1", "plan 1 9 0 -> NOT", "plan 1 1 -2 -> NOT",
            "plan 1 9 NONE -> NOT", "plan 1 9 9 -> NOT", "plan 1 9 -3 -> OUTSIDE", "plan 511 9 0 -> OUTSIDE");
        S.asks(new DioceseBook(), "plan 0 1 0 -> OUTSIDE", "plan 1 1 0 -> UNKNOWN");
        DioceseBook days = Sentences.book("living 5 0 0", "living -5 0 0", "living 0 5 0", "living 0 -5 0",
            "living 5 0 0", "living -5 0 0", "living 0 5 0", "living 0 -5 0", "set 0 0 0");
        S.asks(days, "plan 255 10 NONE -> 4", "plan 255 10 3 -> 136", "plan 255 10 4 -> 0", "plan 255 9 4 -> NOT");
    }
}
