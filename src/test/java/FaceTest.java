import java.lang.reflect.Constructor;
import java.lang.reflect.Field;
import java.lang.reflect.Method;
import java.lang.reflect.Modifier;
import java.nio.file.Files;
import java.nio.file.Path;
import java.util.Arrays;
import java.util.Set;
import java.util.TreeSet;
import java.util.regex.Matcher;
import java.util.regex.Pattern;

/** The face is the document's, and the program keeps to LANGUAGE.md as far as a look can tell. */
public final class FaceTest {
    private static final Due DUE = new Due("FaceTest");

    private static final String FACE = "int size(int); int set(int,int); int turn(); int flip(); int chip(int,int,int);"
            + " int clear(); int take(); int vector(int,int); int feed(int); int read(); int of(int,int);"
            + " int told(int); int chipOf(int,int); long minor(int,int); int noted(int); long first(int);"
            + " long factor(int,int); long sum(int); int unlike(int); int may(int,int); long product(int);"
            + " long productMinor(int,int); long paths(int,int); int see(int,int,int); int fits(int,int);"
            + " long odds(int,int); long mean(int); int event(int,int); long after(int); int book(int,int);"
            + " int looked(); int judge(int,int); int image(); int undo(); int count(int); int tape(int,int,int);"
            + " int item(int,int,long); long peek(int,int); int shift(int,int,int,int,int)";

    public static void main(String[] args) throws Exception {
        constants();
        members();
        insideClasses();
        source(Files.readString(Path.of(System.getProperty("source"))));
        DUE.end();
    }

    private static void constants() {
        DUE.is("NONE", MinorTables.NONE, -1);
        DUE.is("BAD", MinorTables.BAD, -2);
        DUE.is("STATE", MinorTables.STATE, -3);
        DUE.is("FULL", MinorTables.FULL, -4);
        DUE.is("NO", MinorTables.NO, Long.MIN_VALUE);
    }

    private static void members() {
        Set<String> seen = new TreeSet<>();
        Set<String> names = new TreeSet<>();
        for (Method m : MinorTables.class.getDeclaredMethods()) {
            if (Modifier.isPublic(m.getModifiers())) {
                String types = Arrays.toString(m.getParameterTypes()).replaceAll("[\\[\\] ]", "");
                seen.add(m.getReturnType() + " " + m.getName() + "(" + types + ")");
                names.add(m.getName());
                DUE.holds(m + " is of an object", !Modifier.isStatic(m.getModifiers()));
            } else {
                DUE.holds(m + " is private", Modifier.isPrivate(m.getModifiers()));
            }
        }
        DUE.holds("the face is " + seen, seen.equals(new TreeSet<>(Arrays.asList(FACE.split("; ?")))));
        for (Constructor<?> c : MinorTables.class.getDeclaredConstructors()) {
            DUE.holds(c + " is public and empty", Modifier.isPublic(c.getModifiers()) && c.getParameterCount() == 0);
        }
        for (Field f : MinorTables.class.getDeclaredFields()) {
            boolean told = Set.of("NONE", "BAD", "STATE", "FULL", "NO").contains(f.getName());
            DUE.holds(f + "", told ? Modifier.isPublic(f.getModifiers()) : Modifier.isPrivate(f.getModifiers()));
        }
        bearNoPublicName(MinorTables.class, names);
        for (Class<?> inside : MinorTables.class.getDeclaredClasses()) {
            bearNoPublicName(inside, names);
        }
    }

    private static void bearNoPublicName(Class<?> c, Set<String> names) {
        for (Method m : c.getDeclaredMethods()) {
            DUE.holds(m + " bears no public name", Modifier.isPublic(m.getModifiers()) || !names.contains(m.getName()));
        }
    }

    private static void insideClasses() {
        Class<?>[] inside = MinorTables.class.getDeclaredClasses();
        DUE.holds("some twelve classes at most", inside.length <= 12);
        for (Class<?> c : inside) {
            DUE.holds(c + " is static", Modifier.isStatic(c.getModifiers()));
            DUE.holds(c + " is not public", !Modifier.isPublic(c.getModifiers()));
            looksOfAClass(c);
        }
        looksOfAClass(MinorTables.class);
    }

    private static void looksOfAClass(Class<?> c) {
        int fields = 0;
        for (Field f : c.getDeclaredFields()) {
            boolean isStatic = Modifier.isStatic(f.getModifiers());
            fields += isStatic ? 0 : 1;
            DUE.holds(f + " is no static state", !isStatic || Modifier.isFinal(f.getModifiers()));
        }
        DUE.holds(c + " has some twenty fields", fields <= 20);
        for (Method m : c.getDeclaredMethods()) {
            DUE.holds(m + " takes seven at most", m.getParameterCount() <= 7);
            DUE.holds(m + " is none that javac made", !m.isSynthetic());
        }
    }

    private static void source(String whole) {
        String code = whole.replaceAll("(?s)/\\*.*?\\*/", "").replaceAll("//[^\n]*", "");
        String[] banned = {"throw", "throws", "try", "catch", "finally", "synchronized", "assert", "Exact", "->", "::",
            "Object", "equals", "hashCode", "toString", "float", "double", "Random", "Thread", "System\\.(?!arraycopy)",
            "import (?!java\\.util\\.Arrays;)", "\"", "protected", "package", "var ", "instanceof", "static \\{"};
        for (String word : banned) {
            Matcher m = Pattern.compile(Character.isLetter(word.charAt(0)) ? "\\b" + word : word).matcher(code);
            DUE.holds("no " + word, !m.find());
        }
        methodsAreShort(code);
    }

    private static void methodsAreShort(String code) {
        int lines = 0;
        for (String line : code.split("\n")) {
            lines = line.matches(" +[a-zA-Z\\[\\] ]+\\(.*\\) \\{") && !line.matches(" +(if|for|while|switch).*") ? 0 : lines + 1;
            DUE.holds("a long method about " + line, lines <= 70);
        }
    }
}
