import java.lang.reflect.Constructor;
import java.lang.reflect.Field;
import java.lang.reflect.Method;
import java.lang.reflect.Modifier;
import java.nio.file.Files;
import java.nio.file.Path;
import java.util.ArrayList;
import java.util.Arrays;
import java.util.List;
import java.util.Set;
import java.util.TreeSet;
import java.util.regex.Matcher;
import java.util.regex.Pattern;

/** The face is the document's, and the program keeps to LANGUAGE.md as far as a look can tell. */
public final class FaceTest {
    private static final Due DUE = new Due("FaceTest");

    private static final String FACE = "int size(int); int set(int,int); int turn(); int flip(); int chip(int,int,int);"
            + " int clear(); int take(); int vector(int,int); int feed(int); int read(); int of(int,int);"
            + " int told(int); int chipOf(int,int); long minor(int,int); int noted(int); long first(int);"
            + " long factor(int,int); long sum(int); int unlike(int); int may(int,int); long product(int);"
            + " long productMinor(int,int); long paths(int,int); int see(int,int,int); int fits(int,int);"
            + " long odds(int,int); long mean(int); int event(int,int); long after(int); int book(int,int);"
            + " int looked(); int judge(int,int); int image(); int undo(); int count(int); int tape(int,int,int);"
            + " int item(int,int,long); long peek(int,int); int shift(int,int,int,int,int)";

    public static void main(String[] args) throws Exception {
        constants();
        members();
        insideClasses();
        String program = Files.readString(Path.of(System.getProperty("source")));
        source(program);
        Path document = Path.of(System.getProperty("document"));
        if (Files.exists(document)) {
            faceOfTheDocument(Files.readString(document), program);
        } else {
            System.out.println("FaceTest: no document at " + document);
        }
        DUE.end();
    }

    private static void constants() {
        DUE.is("NONE", MinorTables.NONE, -1);
        DUE.is("BAD", MinorTables.BAD, -2);
        DUE.is("STATE", MinorTables.STATE, -3);
        DUE.is("FULL", MinorTables.FULL, -4);
        DUE.is("NO", MinorTables.NO, Long.MIN_VALUE);
    }

    private static void members() {
        Set<String> seen = new TreeSet<>();
        Set<String> names = new TreeSet<>();
        for (Method m : MinorTables.class.getDeclaredMethods()) {
            if (Modifier.isPublic(m.getModifiers())) {
                String types = Arrays.toString(m.getParameterTypes()).replaceAll("[\\[\\] ]", "");
                seen.add(m.getReturnType() + " " + m.getName() + "(" + types + ")");
                names.add(m.getName());
                DUE.holds(m + " is of an object", !Modifier.isStatic(m.getModifiers()));
            } else {
                DUE.holds(m + " is private", Modifier.isPrivate(m.getModifiers()));
            }
        }
        DUE.holds("the face is " + seen, seen.equals(new TreeSet<>(Arrays.asList(FACE.split("; ?")))));
        for (Constructor<?> c : MinorTables.class.getDeclaredConstructors()) {
            DUE.holds(c + " is public and empty", Modifier.isPublic(c.getModifiers()) && c.getParameterCount() == 0);
        }
        for (Field f : MinorTables.class.getDeclaredFields()) {
            boolean told = Set.of("NONE", "BAD", "STATE", "FULL", "NO").contains(f.getName());
            DUE.holds(f + "", told ? Modifier.isPublic(f.getModifiers()) : Modifier.isPrivate(f.getModifiers()));
        }
        bearNoPublicName(MinorTables.class, names);
        for (Class<?> inside : MinorTables.class.getDeclaredClasses()) {
            bearNoPublicName(inside, names);
        }
    }

    private static void bearNoPublicName(Class<?> c, Set<String> names) {
        for (Method m : c.getDeclaredMethods()) {
            DUE.holds(m + " bears no public name", Modifier.isPublic(m.getModifiers()) || !names.contains(m.getName()));
        }
    }

    private static void insideClasses() {
        Class<?>[] inside = MinorTables.class.getDeclaredClasses();
        DUE.holds("some twelve classes at most", inside.length <= 12);
        for (Class<?> c : inside) {
            DUE.holds(c + " is static", Modifier.isStatic(c.getModifiers()));
            DUE.holds(c + " is not public", !Modifier.isPublic(c.getModifiers()));
            looksOfAClass(c);
        }
        looksOfAClass(MinorTables.class);
    }

    private static void looksOfAClass(Class<?> c) {
        int fields = 0;
        for (Field f : c.getDeclaredFields()) {
            boolean isStatic = Modifier.isStatic(f.getModifiers());
            fields += isStatic ? 0 : 1;
            DUE.holds(f + " is no static state", !isStatic || Modifier.isFinal(f.getModifiers()));
        }
        DUE.holds(c + " has some twenty fields", fields <= 20);
        for (Method m : c.getDeclaredMethods()) {
            DUE.holds(m + " takes seven at most", m.getParameterCount() <= 7);
            DUE.holds(m + " is none that javac made", !m.isSynthetic());
        }
    }

    /** "The public face": its lines stand in the program as they are told, and in their order. */
    private static void faceOfTheDocument(String document, String program) {
        int heading = document.indexOf("## The public face");
        int start = document.indexOf("```java", heading);
        String face = document.substring(start, document.indexOf("```", start + 3));
        List<String> lines = all("(?m)^ *(public [^;{]*[^;{ ])", face);
        DUE.is("the class, two lines of constants, the constructor and the methods", lines.size(), 43);
        DUE.alike("the face", String.join("\n", all("(?m)^ *(public [^;{]*[^;{ ])", program)), String.join("\n", lines));
        callsStandWhereTheInterfaceSays(document, program);
    }

    /** "Ahead of the calls .. the interface says": the program says so too. */
    private static void callsStandWhereTheInterfaceSays(String document, String program) {
        Matcher m = Pattern.compile("(?m)^Ahead of the calls (.*) the interface says: (---- .*)\\.$").matcher(document);
        int groups = 0;
        while (m.find()) {
            groups++;
            int start = program.indexOf("    // " + m.group(2) + "\n");
            DUE.holds("the program says " + m.group(2), start >= 0);
            int end = program.indexOf("    // ---- ", start + 1);
            String calls = start >= 0 && end > start ? program.substring(start, end) : "";
            String due = m.group(1).replaceAll("[`,]", "");
            DUE.alike(m.group(2), String.join(" ", all("(?m)^    public \\w+ (\\w+)\\(", calls)), due);
        }
        DUE.is("groups of calls", groups, 7);
    }

    private static List<String> all(String pattern, String text) {
        List<String> found = new ArrayList<>();
        Matcher m = Pattern.compile(pattern).matcher(text);
        while (m.find()) {
            found.add(m.group(1));
        }
        return found;
    }

    /** All is made with the object: by fields, or by the constructors, which stand without a type ahead. */
    private static void callsMakeNothing(String code) {
        boolean inConstructor = false;
        for (String line : code.split("\n")) {
            if (line.matches(" +(private |public )?[A-Za-z].*\\(.*\\) \\{") && !line.matches(" +(if|for|while|switch).*")) {
                inConstructor = line.matches(" +(public )?[A-Z]\\w*\\(.*");
            }
            boolean isField = line.matches(" +(private )?final [\\w\\[\\]]+ \\w+ = new .*;");
            DUE.holds("nothing is made by a call: " + line, !line.matches(".*\\bnew\\b.*") || isField || inConstructor);
        }
        DUE.holds("no copy is made by a call", !code.contains("clone(") && !code.contains("copyOf"));
    }

    private static void source(String whole) {
        String code = whole.replaceAll("(?s)/\\*.*?\\*/", "").replaceAll("//[^\n]*", "");
        String[] banned = {"throw", "throws", "try", "catch", "finally", "synchronized", "assert", "Exact", "->", "::",
            "Object", "equals", "hashCode", "toString", "float", "double", "Random", "Thread", "System\\.(?!arraycopy)",
            "import (?!java\\.util\\.Arrays;)", "\"", "protected", "package", "var ", "instanceof", "static \\{"};
        for (String word : banned) {
            Matcher m = Pattern.compile(Character.isLetter(word.charAt(0)) ? "\\b" + word : word).matcher(code);
            DUE.holds("no " + word, !m.find());
        }
        methodsAreShort(code);
        callsMakeNothing(code);
    }

    private static void methodsAreShort(String code) {
        int lines = 0;
        for (String line : code.split("\n")) {
            lines = line.matches(" +[a-zA-Z\\[\\] ]+\\(.*\\) \\{") && !line.matches(" +(if|for|while|switch).*") ? 0 : lines + 1;
            DUE.holds("a long method about " + line, lines <= 70);
        }
    }
}
