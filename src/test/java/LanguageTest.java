import java.lang.reflect.Constructor;
import java.lang.reflect.Field;
import java.lang.reflect.Method;
import java.lang.reflect.Modifier;
import java.nio.file.Files;
import java.nio.file.Path;
import java.util.ArrayList;
import java.util.HashSet;
import java.util.List;
import java.util.Set;
import java.util.TreeSet;
import java.util.regex.Matcher;
import java.util.regex.Pattern;

/** What of ../shared/LANGUAGE.md a look at the class and at its text can tell. */
public final class LanguageTest {
    private static final Check C = new Check();
    private static final Path SOURCE = Path.of("src/main/java/DioceseBook.java");
    private static final Path DOCUMENT = Path.of("../shared/DOC.md");
    private static final String FACE = "go(int) person(int) living(int,int,int) set(int,int,int)"
        + " paper(int,int,int,int,int,int) told(int,int) book(int,int) about(int,int,int) count(int) feed(int,long)"
        + " canon(int) fault() force(int,int,int) counts(int,int) barred(int,int,int,int) seat(int,int,int,int)"
        + " good(int,int) why(int,int) change(int,int,int,int) days(int,int,int,int,int) news(int,int,int)"
        + " present(int,int,int) step(int,int) appeal(int,int) suit(int,int,int) decay(int,int,int,int)"
        + " field(int,int,int,int,int) match(int,int) piece(int,int,int,int,int) one(int,int) lives(int)"
        + " plan(int,int,int)";
    private static final String CONSTANTS = "NONE BISHOP PRIMATE CROWN UNKNOWN OUTSIDE NOT FULL LARGE";
    private static final Set<String> JAVA = Set.of("String", "Math", "Integer", "Long", "System", "Arrays", "List",
        "ArrayList", "StringBuilder");

    public static void main(String[] args) throws Exception {
        face();
        classes();
        text(Files.readString(SOURCE));
        if (Files.exists(DOCUMENT)) {
            shownFace(Files.readString(SOURCE), Files.readString(DOCUMENT));
        }
        C.end();
    }

    /** Each line of the face that the document shows, and each heading that it tells, in the class in that order. */
    private static void shownFace(String source, String document) {
        Matcher shown = Pattern.compile("(?s)```java\n(.*?)\n```").matcher(document);
        C.due("the document shows a face", shown.find() ? 1 : 0, 1);
        String code = source.replaceAll("\\s+", " ");
        int at = 0;
        int lines = 0;
        for (String line : shown.group(1).split("\n")) {
            String part = line.replaceAll("\\);$", ") {").replace('}', ' ').trim();
            int found = code.indexOf(part, at);
            C.due("in its place: " + line, found < 0 ? 0 : 1, 1);
            at = found < 0 ? at : found;
            lines++;
        }
        C.due("lines of the face", lines, 36);
        Matcher head = Pattern.compile("Ahead of the calls (.*) the interface says: (---- .*)\\.").matcher(document);
        int heads = 0;
        while (head.find()) {
            int from = code.indexOf("// " + head.group(2) + " ");
            C.due("heading " + head.group(2), from < 0 ? 0 : 1, 1);
            int to = code.indexOf("// ----", from + 1);
            for (String name : head.group(1).replace("`", "").split(", ")) {
                int place = code.indexOf("public int " + name + "(");
                C.due("under " + head.group(2) + ": " + name, place > from && place < to ? 1 : 0, 1);
            }
            heads++;
        }
        C.due("headings", heads, 5);
    }

    private static void face() {
        Class<?> c = DioceseBook.class;
        C.due("public and final", c.getModifiers(), Modifier.PUBLIC | Modifier.FINAL);
        Set<String> methods = new TreeSet<>();
        for (Method m : c.getDeclaredMethods()) {
            if (!Modifier.isPrivate(m.getModifiers())) {
                C.due("modifiers of " + m.getName(), m.getModifiers(), Modifier.PUBLIC);
                C.due("int " + m.getName(), m.getReturnType() == int.class ? 1 : 0, 1);
                StringBuilder row = new StringBuilder();
                for (Class<?> p : m.getParameterTypes()) {
                    row.append(row.length() == 0 ? "" : ",").append(p.getName());
                }
                methods.add(m.getName() + "(" + row + ")");
            }
        }
        C.due("methods " + methods, methods.equals(new TreeSet<>(List.of(FACE.split(" ")))) ? 1 : 0, 1);
        Set<String> constants = new TreeSet<>();
        for (Field f : c.getDeclaredFields()) {
            if (!Modifier.isPrivate(f.getModifiers())) {
                C.due("modifiers of " + f.getName(), f.getModifiers(),
                    Modifier.PUBLIC | Modifier.STATIC | Modifier.FINAL);
                constants.add(f.getName());
            }
        }
        C.due("constants " + constants, constants.equals(new TreeSet<>(List.of(CONSTANTS.split(" ")))) ? 1 : 0, 1);
        Constructor<?>[] made = c.getDeclaredConstructors();
        C.row("one constructor", "1 1 0", made.length, made[0].getModifiers(), made[0].getParameterCount());
    }

    private static void classes() {
        List<Class<?>> all = new ArrayList<>(List.of(DioceseBook.class.getDeclaredClasses()));
        all.add(DioceseBook.class);
        C.due("some twelve classes", Math.max(12, all.size()), 12);
        Set<String> open = new HashSet<>();
        for (Method m : DioceseBook.class.getDeclaredMethods()) {
            if (Modifier.isPublic(m.getModifiers())) {
                open.add(m.getName());
            }
        }
        for (Class<?> c : all) {
            int fields = 0;
            for (Field f : c.getDeclaredFields()) {
                boolean fixed = Modifier.isStatic(f.getModifiers());
                fields += fixed ? 0 : 1;
                C.due("static is final: " + f, fixed && !Modifier.isFinal(f.getModifiers()) ? 1 : 0, 0);
            }
            C.due("some twenty fields in " + c, Math.max(20, fields), 20);
            boolean inside = c != DioceseBook.class;
            C.due("static " + c, inside && !Modifier.isStatic(c.getModifiers()) ? 1 : 0, 0);
            C.due("no class deeper in " + c, inside ? c.getDeclaredClasses().length : 0, 0);
            for (Method m : c.getDeclaredMethods()) {
                C.due("parameters of " + m, Math.max(7, m.getParameterCount()), 7);
                C.due("no name of the face: " + m, inside && open.contains(m.getName()) ? 1 : 0, 0);
            }
        }
    }

    private static void text(String source) {
        String code = source.replaceAll("(?s)/\\*.*?\\*/", "").replaceAll("//[^\n]*", "")
            .replaceAll("'[^'\n]*'", "' '").replaceAll("\"[^\"\n]*\"", "\"\"");
        Matcher word = Pattern.compile("\\b(throw|throws|try|catch|finally|synchronized|assert|import|package|native"
            + "|volatile|transient|var|null|float|double|protected|equals|hashCode|toString)\\b").matcher(code);
        while (word.find()) {
            C.due("word " + word.group(), 1, 0);
        }
        for (String sign : new String[] {"->", "::", "@"}) {
            C.due("sign " + sign, code.indexOf(sign), -1);
        }
        for (int i = 0; i < source.length(); i++) {
            if (source.charAt(i) > 126) {
                C.due("sign at " + i, source.charAt(i), 0);
            }
        }
        Matcher call = Pattern.compile("\\b([A-Z][A-Za-z]+)\\.[a-z]").matcher(code);
        while (call.find()) {
            String name = call.group(1);
            C.due("class " + name, JAVA.contains(name) || code.contains("class " + name) ? 1 : 0, 1);
        }
        lengths(code);
    }

    /** Methods of some sixty lines, and no object made but by a constructor or where a field is told. */
    private static void lengths(String code) {
        int start = 0;
        String name = "";
        int line = 0;
        boolean inMethod = false;
        for (String l : code.split("\n")) {
            line++;
            Matcher head = Pattern.compile("^(    |        )\\w[\\w\\[\\] ]*\\b(\\w+)\\(.*\\{$").matcher(l);
            if (head.find()) {
                start = line;
                name = head.group(2);
                inMethod = true;
            }
            boolean isConstructor = !name.isEmpty() && Character.isUpperCase(name.charAt(0));
            if (inMethod && !isConstructor) {
                C.due("made in " + name, l.matches(".*\\bnew\\b.*") ? 1 : 0, 0);
            }
            if (l.equals("    }") || l.equals("        }")) {
                C.due("lines of " + name, Math.max(60, inMethod ? line - start : 0), 60);
                inMethod = false;
            }
        }
    }
}
