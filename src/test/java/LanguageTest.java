import java.io.IOException;
import java.lang.reflect.Constructor;
import java.lang.reflect.Field;
import java.lang.reflect.Method;
import java.lang.reflect.Modifier;
import java.nio.file.Files;
import java.nio.file.Path;
import java.util.Arrays;
import java.util.HashSet;
import java.util.Set;
import java.util.TreeSet;
import java.util.regex.Matcher;
import java.util.regex.Pattern;

/** What a search in the source, and a look at the classes, can tell of the rules of LANGUAGE.md. */
public final class LanguageTest {
    private static final Due DUE = new Due();
    private static final String FACE = "write(int,long)int wipe()int fault()int town()int wants(int,int,int)int about(int)int "
            + "sold(int,int,boolean)long out(int,int,boolean)long given(int,int)int earned(int,boolean)long print()int "
            + "loss(int,int,int,boolean)long see(int,int)int unsee()int likely(int,boolean)long likeliest()int ask()int "
            + "best(int,int,int,int,int,boolean)long now(int,int,int,int,int)int day(int)int gives(int,int)int "
            + "more(int,int)int van(int,int,int)int order(int,int,int)int unorder()int morning(int,int,int)int "
            + "ended(int)int ranOut(int)int habit(int)int days(int)int second(int,int,int,int)int paid(int,int,int)int "
            + "leastPay(int,int,int)int keep(int)int again(int)int count(int)int";

    public static void main(String[] args) throws IOException {
        String source = Files.readString(Path.of("src/main/java/UnsoldAtEleven.java"));
        face();
        classesInside();
        words(source);
        lengths(source);
        for (char c : source.toCharArray()) {
            DUE.of("sign " + (int) c, c == '\n' || c >= 32 && c < 127 ? 1 : 0, 1);
        }
        DUE.end();
    }

    private static void face() {
        Set<String> open = new TreeSet<>();
        Set<String> hidden = new HashSet<>();
        Set<String> names = new HashSet<>();
        for (Method m : UnsoldAtEleven.class.getDeclaredMethods()) {
            if (Modifier.isPrivate(m.getModifiers()) || m.isSynthetic()) {
                hidden.add(m.getName());
                continue;
            }
            DUE.of(m.getName() + " is public", Modifier.isPublic(m.getModifiers()) ? 1 : 0, 1);
            names.add(m.getName());
            StringBuilder told = new StringBuilder(m.getName()).append('(');
            for (Class<?> type : m.getParameterTypes()) {
                told.append(told.charAt(told.length() - 1) == '(' ? "" : ",").append(type);
            }
            open.add(told.append(')').append(m.getReturnType()).toString());
        }
        DUE.of("the face is " + open, open.equals(new TreeSet<>(Arrays.asList(FACE.split(" ")))) ? 1 : 0, 1);
        hidden.retainAll(names);
        DUE.of("private ones named like public ones " + hidden, hidden.size(), 0);
        Constructor<?>[] made = UnsoldAtEleven.class.getDeclaredConstructors();
        DUE.of("one constructor", made.length, 1);
        DUE.of("it is public", made[0].getModifiers(), Modifier.PUBLIC);
        DUE.of("public and final", UnsoldAtEleven.class.getModifiers(), Modifier.PUBLIC | Modifier.FINAL);
        String constants = "UNKNOWN OUTSIDE STATE FULL NONE";
        for (Field f : UnsoldAtEleven.class.getDeclaredFields()) {
            boolean isConstant = Arrays.asList(constants.split(" ")).contains(f.getName());
            DUE.of(f.getName() + " is private or a constant", isConstant == Modifier.isPublic(f.getModifiers())
                    && isConstant != Modifier.isPrivate(f.getModifiers()) ? 1 : 0, 1);
        }
        DUE.of("UNKNOWN", UnsoldAtEleven.UNKNOWN, -1);
        DUE.of("OUTSIDE", UnsoldAtEleven.OUTSIDE, -2);
        DUE.of("STATE", UnsoldAtEleven.STATE, -3);
        DUE.of("FULL", UnsoldAtEleven.FULL, -4);
        DUE.of("NONE", UnsoldAtEleven.NONE, -9);
    }

    private static void classesInside() {
        Class<?>[] inside = UnsoldAtEleven.class.getDeclaredClasses();
        DUE.of("twelve classes at most: " + inside.length, inside.length < 12 ? 1 : 0, 1);
        fields(UnsoldAtEleven.class);
        for (Class<?> c : inside) {
            DUE.of(c + " is static", Modifier.isStatic(c.getModifiers()) ? 1 : 0, 1);
            DUE.of(c + " is not open", c.getModifiers() & (Modifier.PUBLIC | Modifier.PROTECTED), 0);
            fields(c);
        }
    }

    private static void fields(Class<?> c) {
        int own = 0;
        for (Field f : c.getDeclaredFields()) {
            if (!Modifier.isStatic(f.getModifiers())) {
                own++;
                continue;
            }
            DUE.of(c + "." + f.getName() + " is final", Modifier.isFinal(f.getModifiers()) ? 1 : 0, 1);
        }
        DUE.of(c + " has twenty fields at most: " + own, own <= 20 ? 1 : 0, 1);
        for (Method m : c.getDeclaredMethods()) {
            DUE.of(c + "." + m.getName() + " takes seven at most", m.getParameterCount() <= 7 ? 1 : 0, 1);
        }
    }

    private static void words(String source) {
        String bare = source.replaceAll("(?s)/\\*.*?\\*/", "").replaceAll("//[^\n]*", "").replaceAll("'.'", "0");
        String[] none = {"\\b(throw|throws|try|catch|finally|synchronized|assert|double|float|instanceof|volatile|var)\\b",
            "->", "::", "\"", "\\bpackage\\b", "static\\s*\\{", "Exact\\b", "\\bSystem\\.(?!arraycopy)", "\\bThread\\b",
            "\\b(Random|Object|hashCode|equals|toString|reflect)\\b", "while\\s*\\(\\s*true", "for\\s*\\(\\s*;",
            "import (?!java\\.util\\.(Arrays|ArrayList|List|Iterator);)", "Arrays\\.(?!copyOf|copyOfRange|fill)"};
        for (String pattern : none) {
            Matcher m = Pattern.compile(pattern).matcher(bare);
            DUE.of("in the source stands " + pattern, m.find() ? 1 : 0, 0);
        }
        DUE.of("public classes", bare.split("public final class", -1).length - 1, 1);
    }

    /** A method's head stands four or eight signs in, and its last brace as far. */
    private static void lengths(String source) {
        String[] lines = source.split("\n");
        for (int from = 0; from < lines.length; from++) {
            if (!lines[from].matches("( {4}| {8})[a-z].*\\) \\{")) {
                continue;
            }
            String end = lines[from].replaceAll("[^ ].*", "") + "}";
            int to = from;
            while (!lines[to].equals(end)) {
                to++;
            }
            DUE.of("line " + (from + 1) + " begins a long method", to - from < 60 ? 1 : 0, 1);
        }
    }
}
