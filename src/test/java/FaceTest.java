import java.io.IOException;
import java.lang.reflect.Constructor;
import java.lang.reflect.Executable;
import java.lang.reflect.Field;
import java.lang.reflect.Method;
import java.lang.reflect.Modifier;
import java.nio.file.Files;
import java.nio.file.Path;
import java.util.ArrayList;
import java.util.List;
import java.util.Set;
import java.util.TreeSet;
import java.util.regex.Matcher;
import java.util.regex.Pattern;

/** The document's face, and what of ../shared/LANGUAGE.md can be seen by a look at the class and its text. */
public final class FaceTest {
    private static final Path SOURCE = Path.of("src/main/java/HoneyWinds.java");
    private static final String[] FACE = {"int stuff(int,int)", "int of(int,int)", "int feed(long,int)", "int law(int,int)",
        "int told(int,int)", "int winds(int,int,int,int)", "int tick(int)", "int run(int,int,int)",
        "int curve(int,int,int,int,boolean)", "int jumps(int,int,int,int,int)", "int several(int,int,int,int)",
        "int order(int,int,int,int)", "int want(int)", "int found(int,int,int,int,int)", "int bears(int,int,int,int)",
        "int film(int,int,int)", "int off(int)", "int which()", "int fits(int,int)", "int read(int,int,int,int,int,int)",
        "int next(int,int)", "int two(int,int,int,int,int)", "int act(int,int,int)", "int trace(int)", "int as(int,int)",
        "int image()", "int undo()", "int count(int)"};

    public static void main(String[] args) throws IOException {
        face();
        constants();
        members();
        sizes();
        String text = Files.readString(SOURCE);
        words(text);
        lengths(text);
        Due.end();
    }

    private static void due(String what, long got, long want) {
        Due.due(what, got, want);
    }

    private static String told(Method m) {
        StringBuilder s = new StringBuilder(m.getReturnType().getName() + " " + m.getName() + "(");
        for (Class<?> p : m.getParameterTypes()) {
            s.append(s.charAt(s.length() - 1) == '(' ? "" : ",").append(p.getName());
        }
        return s + ")";
    }

    private static void face() {
        Set<String> due = new TreeSet<>(List.of(FACE));
        Set<String> is = new TreeSet<>();
        for (Method m : HoneyWinds.class.getDeclaredMethods()) {
            if (!Modifier.isPrivate(m.getModifiers())) {
                is.add(told(m));
                due(m + " is public and no static", m.getModifiers() & (Modifier.PUBLIC | Modifier.STATIC), Modifier.PUBLIC);
            }
        }
        Set<String> more = new TreeSet<>(is);
        more.removeAll(due);
        due.removeAll(is);
        due("methods that are missing " + due, due.size(), 0);
        due("methods that are too many " + more, more.size(), 0);
        Constructor<?>[] made = HoneyWinds.class.getDeclaredConstructors();
        due("constructors", made.length, 1);
        due("the constructor's parameters", made[0].getParameterCount(), 0);
        due("the constructor is public", made[0].getModifiers(), Modifier.PUBLIC);
        due("the class is public and final", HoneyWinds.class.getModifiers(), Modifier.PUBLIC | Modifier.FINAL);
    }

    private static void constants() {
        due("NONE", HoneyWinds.NONE, -1);
        due("BAD", HoneyWinds.BAD, -2);
        due("STATE", HoneyWinds.STATE, -3);
        due("FULL", HoneyWinds.FULL, -4);
        int open = 0;
        for (Field f : HoneyWinds.class.getDeclaredFields()) {
            open += Modifier.isPrivate(f.getModifiers()) ? 0 : 1;
        }
        due("fields that are not private", open, 4);
    }

    private static List<Class<?>> classes() {
        List<Class<?>> all = new ArrayList<>(List.of(HoneyWinds.class.getDeclaredClasses()));
        all.add(HoneyWinds.class);
        return all;
    }

    private static void members() {
        Set<String> open = new TreeSet<>();
        for (Method m : HoneyWinds.class.getDeclaredMethods()) {
            if (Modifier.isPublic(m.getModifiers())) {
                open.add(m.getName());
            }
        }
        for (Class<?> c : classes()) {
            due(c + " is static or the class itself", c == HoneyWinds.class || Modifier.isStatic(c.getModifiers()) ? 1 : 0, 1);
            due(c + " is public", Modifier.isPublic(c.getModifiers()) ? 1 : 0, c == HoneyWinds.class ? 1 : 0);
            for (Field f : c.getDeclaredFields()) {
                if (Modifier.isStatic(f.getModifiers())) {
                    due(f + " is final", Modifier.isFinal(f.getModifiers()) ? 1 : 0, 1);
                }
            }
            for (Method m : c.getDeclaredMethods()) {
                if (c != HoneyWinds.class || Modifier.isPrivate(m.getModifiers())) {
                    due(m + " bears the name of a public one", open.contains(m.getName()) ? 1 : 0, 0);
                }
            }
        }
    }

    private static void sizes() {
        due("more classes than twelve", Math.max(12, classes().size()), 12);
        for (Class<?> c : classes()) {
            int fields = 0;
            for (Field f : c.getDeclaredFields()) {
                fields += Modifier.isStatic(f.getModifiers()) ? 0 : 1;
            }
            due(c + ": more fields than twenty", Math.max(20, fields), 20);
            List<Executable> all = new ArrayList<>(List.of(c.getDeclaredMethods()));
            all.addAll(List.of(c.getDeclaredConstructors()));
            for (Executable e : all) {
                due(e + ": more parameters than seven", Math.max(7, e.getParameterCount()), 7);
            }
        }
    }

    private static void words(String text) {
        String[] banned = {"\\bthrow\\b", "\\bthrows\\b", "\\btry\\b", "\\bcatch\\b", "\\bsynchronized\\b", "\\bassert\\b",
            "->", "::", "@", "\\bpackage\\b", "\\bdouble\\b", "\\bfloat\\b", "\\bvar\\b", "\\bSystem\\.(?!arraycopy)",
            "\\bMath\\.\\w+Exact\\b", "\\bequals\\b", "\\bhashCode\\b", "\\btoString\\b", "\\bprotected\\b", "\\bwhile\\b",
            "^import (?!java\\.util\\.Arrays;)", "[^\\x00-\\x7f]"};
        String code = text.replaceAll("(?m)^\\s*(//|/\\*\\*).*$", "");
        for (String b : banned) {
            Matcher m = Pattern.compile(b, Pattern.MULTILINE).matcher(code);
            due("the text has " + b, m.find() ? 1 : 0, 0);
        }
    }

    private static void lengths(String text) {
        String[] lines = text.split("\n");
        for (int i = 0; i < lines.length; i++) {
            due("line " + (i + 1) + " is longer than 120", Math.max(120, lines[i].length()), 120);
            Matcher m = Pattern.compile("^( +)[^;=/]*\\) \\{$").matcher(lines[i]);
            if (m.find() && !lines[i].matches("\\s*(}|if|for|switch).*")) {
                int end = i;
                while (!lines[end].equals(m.group(1) + "}")) {
                    end++;
                }
                due("the method at line " + (i + 1) + " is longer than 60 lines", Math.max(60, end - i + 1), 60);
            }
        }
    }
}
