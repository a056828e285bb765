import java.io.IOException;
import java.lang.reflect.Constructor;
import java.lang.reflect.Field;
import java.lang.reflect.Method;
import java.lang.reflect.Modifier;
import java.nio.file.Files;
import java.nio.file.Path;
import java.util.Arrays;
import java.util.Set;
import java.util.TreeSet;
import java.util.regex.Matcher;
import java.util.regex.Pattern;

/** The public face, and those rules of LANGUAGE.md that can be seen from outside or in the words of the source. */
public final class RulesTest {
    private static final Due due = new Due();
    private static final String[] FACE = {
        "int add(int,int,int)", "int out(int)", "int move(int,int,int)", "int tolerance(int)", "int point(int,int)",
        "int hull(int,int)", "int edge(int,int,int)", "int count(int)", "long judge(int,int)", "int way(int,int)",
        "long without(int,int,int)", "long lost(int,int,int)", "int type(int)", "int read()", "int drift(int)",
        "int undo()", "int seed(int)", "int image()", "int restore()", "int corners(int,int,int,int)",
        "int film(int,int,int,int)", "int sheet(int,int,int)", "int drop(int)", "int item(int,int,int,long)",
        "int copy(int,int,int,int,int)"};
    private static final String[] CONSTANTS = {"BAD", "NOT", "FULL", "NONE", "NULL", "CAST", "INDEX", "SIZE"};
    private static final int[] VALUES = {-1, -2, -3, -4, -11, -12, -13, -14};

    public static void main(String[] args) throws Exception {
        face();
        constants();
        nested();
        source(Files.readString(Path.of(args.length > 0 ? args[0] : "src/main/java/ZoneJudge.java")));
        due.end();
    }

    private static void face() {
        Set<String> seen = new TreeSet<>();
        Set<String> names = new TreeSet<>();
        for (Method m : ZoneJudge.class.getDeclaredMethods()) {
            if (Modifier.isPrivate(m.getModifiers())) continue;
            StringBuilder text = new StringBuilder(m.getReturnType() + " " + m.getName() + "(");
            for (Class<?> type : m.getParameterTypes()) text.append(text.toString().endsWith("(") ? "" : ",").append(type);
            seen.add(text.append(")").toString());
            names.add(m.getName());
            due.isTrue(m + " is public and no static one", Modifier.isPublic(m.getModifiers()) && !Modifier.isStatic(m.getModifiers()));
        }
        due.isTrue("the face is that of the document: " + seen, seen.equals(new TreeSet<>(Arrays.asList(FACE))));
        for (Method m : ZoneJudge.class.getDeclaredMethods()) {
            due.isTrue("a private name is no public one: " + m, !Modifier.isPrivate(m.getModifiers()) || !names.contains(m.getName()));
        }
        Constructor<?>[] made = ZoneJudge.class.getDeclaredConstructors();
        due.isTrue("one public constructor", made.length == 1 && Modifier.isPublic(made[0].getModifiers()) && made[0].getParameterCount() == 0);
        due.isTrue("public and final", Modifier.isPublic(ZoneJudge.class.getModifiers()) && Modifier.isFinal(ZoneJudge.class.getModifiers()));
        due.isTrue("no class above", ZoneJudge.class.getSuperclass() == Object.class && ZoneJudge.class.getInterfaces().length == 0);
    }

    private static void constants() throws IllegalAccessException {
        Set<String> seen = new TreeSet<>();
        for (Field f : ZoneJudge.class.getDeclaredFields()) {
            if (Modifier.isPrivate(f.getModifiers())) continue;
            seen.add(f.getName());
            int at = Arrays.asList(CONSTANTS).indexOf(f.getName());
            due.isTrue(f + " is told", at >= 0);
            if (at >= 0) due.is(f.getName(), f.getInt(null), VALUES[at]);
        }
        due.is("constants", seen.size(), CONSTANTS.length);
    }

    private static void nested() {
        Class<?>[] inside = ZoneJudge.class.getDeclaredClasses();
        due.isTrue("at most eleven classes inside", inside.length <= 11);
        for (Class<?> c : inside) {
            due.isTrue(c + " is static", Modifier.isStatic(c.getModifiers()));
            due.isTrue(c + " is not public", !Modifier.isPublic(c.getModifiers()) && !Modifier.isProtected(c.getModifiers()));
            int fields = 0;
            for (Field f : c.getDeclaredFields()) {
                if (!Modifier.isStatic(f.getModifiers())) fields++;
                else due.isTrue(f + " is final", Modifier.isFinal(f.getModifiers()));
            }
            due.isTrue(c + " has some twenty fields", fields <= 20);
            for (Method m : c.getDeclaredMethods()) {
                due.isTrue(m + " takes seven", m.getParameterCount() <= 7);
                due.isTrue(m + " bears no public name", Arrays.stream(FACE).noneMatch(f -> f.contains(" " + m.getName() + "(")));
            }
        }
    }

    private static void source(String source) throws IOException {
        String code = source.replaceAll("(?s)/\\*.*?\\*/", "").replaceAll("//[^\n]*", "");
        for (String word : new String[] {"throw", "throws", "try", "catch", "finally", "synchronized", "assert", "import",
            "package", "protected", "double", "float", "Object", "hashCode", "toString", "native", "volatile", "goto"}) {
            due.isTrue("no " + word, !Pattern.compile("\\b" + word + "\\b").matcher(code).find());
        }
        due.isTrue("no lambda", !code.contains("->"));
        due.isTrue("no method reference", !code.contains("::"));
        Set<String> library = new TreeSet<>();
        Matcher uses = Pattern.compile("\\b(Math|Integer|Long|System|Arrays|String|Character|Short|Byte)\\.(\\w+)").matcher(code);
        while (uses.find()) library.add(uses.group());
        Set<String> known = Set.of("Math.abs", "Integer.bitCount", "Long.compare", "System.arraycopy");
        due.isTrue("the library's listed part alone: " + library, known.containsAll(library));
        lengths(code);
    }

    /** Methods stay within sixty lines: each starts at one of two depths, and ends with a brace there. */
    private static void lengths(String code) {
        String[] lines = code.split("\n");
        for (int depth = 4; depth <= 8; depth += 4) {
            String gap = " ".repeat(depth);
            int start = -1;
            for (int at = 0; at < lines.length; at++) {
                if (lines[at].matches(gap + "\\w.*\\).*\\{")) start = at;
                if (lines[at].equals(gap + "}") && start >= 0) {
                    due.isTrue("sixty lines are enough: " + lines[start], at - start < 60);
                    start = -1;
                }
            }
        }
    }
}
