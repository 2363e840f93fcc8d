/** What the tests share: counting answers that are not due, and feeding texts. */
final class Check {
    static final int NONE = DioceseBook.NONE, UNKNOWN = DioceseBook.UNKNOWN, OUTSIDE = DioceseBook.OUTSIDE,
        NOT = DioceseBook.NOT, FULL = DioceseBook.FULL;
    static final int BORN = 0, DIED = 1, PRIESTED = 2, IN = 3, OUT = 4, LEAVE = 5, HEIR = 6, SHARED = 7, ALONE = 8,
        NEXT = 9, NOTICE = 10, SURVEY = 11, VOID = 12;

    private int looks;
    private int wrong;

    void due(String what, long got, long want) {
        looks++;
        if (got != want) {
            wrong++;
            System.out.println(what + " answered " + got + ", due is " + want);
        }
    }

    /** Several answers in one line, with blanks between them. */
    void row(String what, String want, int... got) {
        StringBuilder line = new StringBuilder();
        for (int g : got) {
            line.append(line.length() == 0 ? "" : " ").append(g);
        }
        looks++;
        if (!line.toString().equals(want)) {
            wrong++;
            System.out.println(what + " answered " + line + ", due is " + want);
        }
    }

    void end() {
        System.out.println(looks + " answers, " + wrong + " not as due");
        if (wrong != 0 || looks == 0) {
            System.exit(1);
        }
    }

    static int feed(DioceseBook book, String text) {
        int answer = book.count(10);
        for (int i = 0; i < text.length(); i += 8) {
            long bytes = 0;
            int n = Math.min(8, text.length() - i);
            for (int k = 0; k < n; k++) {
                bytes = bytes << 8 | text.charAt(i + k) & 255;
            }
            answer = book.feed(n, bytes);
        }
        return answer;
    }

    static int canon(DioceseBook book, int day, String text) {
        feed(book, text);
        return book.canon(day);
    }

    /** The FAULT of a text, and where: 100 times the byte and the number; NONE. */
    static int fault(DioceseBook book, String text) {
        int answer = canon(book, 0, text);
        return answer >= 0 ? NONE : 100 * book.fault() + -10 - answer;
    }

    static DioceseBook with(int persons, int livings) {
        DioceseBook book = new DioceseBook();
        for (int i = 0; i < persons; i++) {
            book.person(100);
        }
        for (int i = 0; i < livings; i++) {
            book.living(i, 0, 10);
        }
        return book;
    }

    static String times(int n, String text) {
        return text.repeat(n);
    }
}
