import java.lang.reflect.Constructor;
import java.lang.reflect.Field;
import java.lang.reflect.Method;
import java.lang.reflect.Modifier;
import java.nio.charset.StandardCharsets;
import java.nio.file.Files;
import java.nio.file.Path;
import java.util.Arrays;
import java.util.HashSet;
import java.util.Set;
import java.util.TreeSet;
import java.util.regex.Matcher;
import java.util.regex.Pattern;

/** The face of the document, and those rules of LANGUAGE.md that can be seen without reading: run from the project's folder. */
final class LanguageTest {
    private static final Due due = new Due("LanguageTest");
    private static final String FACE = "back() cell(int,int,int) chance(int,int,int,int)L change(int) client(int,int) "
            + "copy(int,int,int,int,int) count(int) dear(int) drawn(int) feed(int) few(int) figure(int,int,int) "
            + "figures(int,int,int,int) film(int,int,int) force(int) glad(int,int,int) image() missed(int) raise(int,int) "
            + "set(int,int,int) sheet(int,int,int) show(int,int) showing(int,int) take(int) taken(int,int) tells(int,int,int) "
            + "text() told(int,int)";

    public static void main(String[] args) throws Exception {
        face();
        constants();
        membersOfClasses();
        words();
        lengths();
        recursion();
        due.end();
    }

    private static void face() {
        Class<?> c = CrystalByTheMinute.class;
        due.is("public final", c.getModifiers(), Modifier.PUBLIC | Modifier.FINAL);
        Set<String> methods = new TreeSet<>();
        Set<String> publicNames = new HashSet<>();
        for (Method m : c.getDeclaredMethods()) {
            if (Modifier.isPrivate(m.getModifiers())) {
                continue;
            }
            due.is(m + " is public and no more", m.getModifiers(), Modifier.PUBLIC);
            String types = Arrays.toString(m.getParameterTypes()).replaceAll("[\\[\\] ]", "");
            methods.add(m.getName() + "(" + types + ")" + (m.getReturnType() == long.class ? "L" : ""));
            due.is(m + " answers a number", m.getReturnType() == long.class || m.getReturnType() == int.class ? 1 : 0, 1);
            publicNames.add(m.getName());
        }
        due.is("the face: " + methods, methods.equals(new TreeSet<>(Arrays.asList(FACE.split(" ")))) ? 1 : 0, 1);
        for (Class<?> inside : all()) {
            for (Method m : inside.getDeclaredMethods()) {
                boolean isFace = Modifier.isPublic(m.getModifiers()) && inside == c;
                due.is(m + " bears no name of the face", !isFace && publicNames.contains(m.getName()) ? 1 : 0, 0);
            }
        }
        due.is("one constructor", c.getDeclaredConstructors().length, 1);
        for (Constructor<?> k : c.getDeclaredConstructors()) {
            due.is("public, without parameters", k.getModifiers() + k.getParameterCount(), Modifier.PUBLIC);
        }
    }

    private static void constants() {
        due.is("NONE", CrystalByTheMinute.NONE, -1);
        due.is("BAD", CrystalByTheMinute.BAD, -2);
        due.is("STATE", CrystalByTheMinute.STATE, -3);
        due.is("FULL", CrystalByTheMinute.FULL, -4);
        due.is("NO", CrystalByTheMinute.NO, -4611686018427387904L);
        int open = 0;
        for (Field f : CrystalByTheMinute.class.getDeclaredFields()) {
            open += Modifier.isPrivate(f.getModifiers()) ? 0 : 1;
        }
        due.is("no other open field", open, 5);
    }

    private static Class<?>[] all() {
        Class<?>[] inside = CrystalByTheMinute.class.getDeclaredClasses();
        Class<?>[] all = Arrays.copyOf(inside, inside.length + 1);
        all[inside.length] = CrystalByTheMinute.class;
        return all;
    }

    private static void membersOfClasses() {
        due.is("some twelve classes at most", all().length <= 12 ? 1 : 0, 1);
        for (Class<?> c : all()) {
            due.is(c + " is the outer one or static", c == CrystalByTheMinute.class || Modifier.isStatic(c.getModifiers()) ? 1 : 0, 1);
            int fields = 0;
            for (Field f : c.getDeclaredFields()) {
                boolean isStatic = Modifier.isStatic(f.getModifiers());
                fields += isStatic ? 0 : 1;
                due.is(f + " is final if static", !isStatic || Modifier.isFinal(f.getModifiers()) ? 1 : 0, 1);
            }
            due.is(c + " has some twenty fields at most", fields <= 20 ? 1 : 0, 1);
            for (Method m : c.getDeclaredMethods()) {
                due.is(m + " takes seven at most", m.getParameterCount() <= 7 ? 1 : 0, 1);
                due.is(m + " is no lambda", m.isSynthetic() ? 1 : 0, 0);
            }
        }
    }

    private static String source() throws Exception {
        String s = Files.readString(Path.of("src/main/java/CrystalByTheMinute.java"), StandardCharsets.UTF_8);
        due.is("signs 1 to 127", s.chars().allMatch(c -> c > 0 && c < 128) ? 1 : 0, 1);
        return Pattern.compile("(?s)/\\*.*?\\*/").matcher(s).replaceAll(m -> "\n".repeat((int) m.group().chars().filter(c -> c == 10).count()))
                .replaceAll("//[^\n]*", "").replaceAll("\"[^\"\n]*\"", "\"\"");
    }

    private static void words() throws Exception {
        String s = source();
        Matcher m = Pattern.compile("\\b(throw|throws|try|catch|finally|synchronized|assert|import|package|volatile|native|"
                + "equals|hashCode|toString|System\\.(?!arraycopy)|Math\\.\\w+Exact|Thread|Random|Object|while\\s*\\(true\\)|"
                + "static\\s*\\{)\\b|->|::|for\\s*\\(;;|\"\"\\s*\\+|\\+\\s*\"\"").matcher(s);
        while (m.find()) {
            due.is("'" + m.group() + "' stands in the class", 1, 0);
        }
    }

    private static void lengths() throws Exception {
        int start = 0;
        int line = 0;
        for (String text : source().split("\n")) {
            line++;
            if (text.matches("( {4}| {8})[a-zA-Z].*\\) \\{")) {
                start = line;
            }
            if (text.matches("( {4}| {8})\\}")) {
                due.is("the method at line " + start + " has some sixty lines at most", line - start <= 60 ? 1 : 0, 1);
            }
        }
    }

    /** Rule 8: private methods may call one another, but what calls itself is private and static. */
    private static void recursion() throws Exception {
        Pattern head = Pattern.compile("( {4}| {8})(\\w.*?)\\b(\\w+)\\([^)]*\\) \\{");
        Matcher method = null;
        boolean callsItself = false;
        int found = 0;
        for (String text : source().split("\n")) {
            if (method == null) {
                Matcher m = head.matcher(text);
                method = m.matches() ? m : null;
                callsItself = false;
            } else if (text.equals(method.group(1) + "}")) {
                found += callsItself ? 1 : 0;
                boolean isAllowed = method.group(2).startsWith("private static ");
                due.is(method.group(3) + " calls itself and is not private and static", callsItself && !isAllowed ? 1 : 0, 0);
                method = null;
            } else {
                callsItself |= Pattern.compile("\\b" + method.group(3) + "\\(").matcher(text).find();
            }
        }
        due.is("some methods were seen to call themselves", found > 0 ? 1 : 0, 1);
    }
}
