import java.lang.reflect.InvocationTargetException;
import java.lang.reflect.Method;
import java.lang.reflect.Modifier;
import java.io.IOException;
import java.nio.file.Files;
import java.nio.file.Path;
import java.util.HashMap;
import java.util.List;
import java.util.Map;

/**
 * Tests by sentences of the document. A sentence is quoted, and looked for in ../shared/DOC.md; the calls behind it are
 * written as texts, with what is due: "paper IN 100 0 2 CROWN 0 -> 7". Besides the calls of the face there are
 * "text let fee 1;" (feeds it, in eights), "law 10 let fee 1;" (feeds it and makes it a CANON of that DAY) and
 * "until 30000" (goes on to that DAY); "39 x person 0" does it so often.
 */
final class Sentences {
    private static final Path DOCUMENT = Path.of("../shared/DOC.md");
    private static final String DUE = " -> ";
    private static final List<String> KINDS = List.of("BORN", "DIED", "PRIESTED", "IN", "OUT", "LEAVE", "HEIR", "SHARED",
        "ALONE", "NEXT", "NOTICE", "SURVEY", "VOID");
    private static final Map<String, Integer> NUMBERS = numbers();
    private static final Map<String, Method> CALLS = calls();

    private final Check check = new Check();
    private final String document = readDocument();
    private String words = "";
    private int sentences;
    private int asked = 1;

    private static Map<String, Integer> numbers() {
        Map<String, Integer> names = new HashMap<>(Map.of("NONE", DioceseBook.NONE, "BISHOP", DioceseBook.BISHOP,
            "PRIMATE", DioceseBook.PRIMATE, "CROWN", DioceseBook.CROWN, "UNKNOWN", DioceseBook.UNKNOWN,
            "OUTSIDE", DioceseBook.OUTSIDE, "NOT", DioceseBook.NOT, "FULL", DioceseBook.FULL));
        for (int kind = 0; kind < KINDS.size(); kind++) {
            names.put(KINDS.get(kind), kind);
        }
        return names;
    }

    private static Map<String, Method> calls() {
        Map<String, Method> byName = new HashMap<>();
        for (Method m : DioceseBook.class.getDeclaredMethods()) {
            if (Modifier.isPublic(m.getModifiers())) {
                byName.put(m.getName(), m);
            }
        }
        return byName;
    }

    /** On one line; empty where there is no document, then no sentence is looked for. */
    private static String readDocument() {
        try {
            return Files.exists(DOCUMENT) ? onOneLine(Files.readString(DOCUMENT)) : "";
        } catch (IOException e) {
            throw new IllegalStateException(e);
        }
    }

    private static String onOneLine(String text) {
        return text.replaceAll("\\s+", " ");
    }

    /** From here on the answers are those that this sentence asks for. */
    void sentence(String quoted) {
        close();
        words = quoted;
        sentences++;
        asked = 0;
        if (!document.isEmpty()) {
            check.due("\"" + quoted + "\" stands in the document", document.contains(onOneLine(quoted)) ? 1 : 0, 1);
        }
    }

    private void close() {
        if (asked == 0) {
            check.due("\"" + words + "\": how many answers", 0, 1);
        }
    }

    void end() {
        close();
        System.out.print(sentences + " sentences, ");
        check.end();
    }

    void due(String what, long got, long want) {
        asked++;
        check.due("\"" + words + "\": " + what, got, want);
    }

    /** Each row is a call, with what is due or without; without, it must not be refused. */
    void asks(DioceseBook b, String... rows) {
        for (String row : rows) {
            int split = row.lastIndexOf(DUE);
            if (split < 0) {
                call(b, row);
            } else {
                due(row.substring(0, split), answer(b, row.substring(0, split)),
                    number(row.substring(split + DUE.length())));
            }
        }
    }

    /** A new object after these calls, none of which may be refused. */
    static DioceseBook book(String... calls) {
        DioceseBook b = new DioceseBook();
        for (String c : calls) {
            call(b, c);
        }
        return b;
    }

    private static void call(DioceseBook b, String call) {
        int answer = answer(b, call);
        if (answer < DioceseBook.CROWN) {
            throw new IllegalStateException(call + " answered " + answer);
        }
    }

    /** What the last of these calls answers. */
    static int answer(DioceseBook b, String call) {
        String[] part = call.split(" ", 3);
        if (part.length == 3 && part[1].equals("x")) {
            int last = 0;
            for (int k = number(part[0]); k > 0; k--) {
                last = answer(b, part[2]);
            }
            return last;
        }
        switch (part[0]) {
            case "text": return Check.feed(b, call.substring("text ".length()));
            case "law": return Check.canon(b, number(part[1]), part.length < 3 ? "" : part[2]);
            case "until": return goUntil(b, number(part[1]));
            case "feed": return b.feed(number(part[1]), Long.parseLong(part[2]));
            default: return ask(b, call.split(" "));
        }
    }

    private static int goUntil(DioceseBook b, int day) {
        while (b.count(0) < day) {
            b.go(Math.min(9999, day - b.count(0)));
        }
        return b.count(0);
    }

    private static int ask(DioceseBook b, String[] part) {
        Object[] row = new Object[part.length - 1];
        for (int k = 0; k < row.length; k++) {
            row[k] = number(part[k + 1]);
        }
        try {
            return (Integer) CALLS.get(part[0]).invoke(b, row);
        } catch (IllegalAccessException | InvocationTargetException e) {
            throw new IllegalStateException(String.join(" ", part), e);
        }
    }

    private static int number(String word) {
        Integer named = NUMBERS.get(word);
        return named != null ? named : Integer.parseInt(word);
    }
}
