import java.io.IOException;
import java.lang.reflect.Constructor;
import java.lang.reflect.Field;
import java.lang.reflect.Method;
import java.lang.reflect.Modifier;
import java.nio.file.Files;
import java.nio.file.Path;
import java.util.Arrays;
import java.util.List;
import java.util.TreeSet;
import java.util.regex.Matcher;
import java.util.regex.Pattern;

/** The document's face, neither less nor more, and what of LANGUAGE.md can be seen from outside. */
public final class LanguageTest {
    private static final String[] FACE = {
        "int set(int,long,long)", "int add(int,int,int)", "int take(int,int,int)", "int times(int,int,int)",
        "int over(int,int,int)", "int root(int,int)", "int exp(int,int)", "int log(int,int)", "int arc(int,int)",
        "int sine(int,int,boolean)", "int pi(int)", "int widen(int,long)", "int join(int,int,int)", "int lies(int,int)",
        "int holds(int,long,long)", "long limb(int,int,int)", "int digit(int,int)", "int sure(int)", "int count(int)"};
    private static final String[] CONSTANTS = {
        "BAD -1", "BELOW -2", "ABOVE 2", "SAME 3", "WITHIN 4", "AROUND 5", "ACROSS 6"};
    private static final String[] NOT_TO_STAND = {
        "\\bimport\\b", "\\bpackage\\b", "->", "::", "\\bBigInteger\\b", "\\bBigDecimal\\b", "\\bjava\\.", "\\bsynchronized\\b",
        "\\bassert\\b", "\\bfinally\\b", "\\bvar\\b", "\\bnative\\b", "\\bdouble\\b", "\\bfloat\\b", "Exact\\b",
        "static\\s*\\{", "\\bSystem\\.(?!arraycopy\\b)", "\\bThread\\b", "\\bRandom\\b"};

    private static final Check check = new Check();

    public static void main(String[] args) throws IOException, ReflectiveOperationException {
        face();
        nested();
        sizes();
        words(Files.readString(Path.of("src/main/java/BallDesk.java")));
        check.end("LanguageTest");
    }

    private static void same(String name, TreeSet<String> got, List<String> want) {
        check.due(name + " " + got, got.equals(new TreeSet<>(want)) ? 1 : 0, 1);
    }

    private static void face() throws ReflectiveOperationException {
        Class<?> desk = BallDesk.class;
        check.due("public final", Modifier.isPublic(desk.getModifiers()) && Modifier.isFinal(desk.getModifiers()) ? 1 : 0, 1);
        TreeSet<String> open = new TreeSet<>();
        TreeSet<String> closed = new TreeSet<>();
        for (Method method : desk.getDeclaredMethods()) {
            if (Modifier.isPublic(method.getModifiers())) {
                open.add(signature(method));
            } else {
                check.due("private: " + method, Modifier.isPrivate(method.getModifiers()) ? 1 : 0, 1);
                closed.add(method.getName());
            }
        }
        same("methods", open, Arrays.asList(FACE));
        for (String method : FACE) {
            String name = method.substring(method.indexOf(' ') + 1, method.indexOf('('));
            check.due("a private method of the name " + name, closed.contains(name) ? 1 : 0, 0);
        }
        TreeSet<String> constants = new TreeSet<>();
        for (Field field : desk.getDeclaredFields()) {
            if (Modifier.isPublic(field.getModifiers())) {
                constants.add(field.getName() + " " + field.getInt(null));
            } else {
                check.due("private: " + field, Modifier.isPrivate(field.getModifiers()) ? 1 : 0, 1);
            }
        }
        same("constants", constants, Arrays.asList(CONSTANTS));
        Constructor<?>[] constructors = desk.getDeclaredConstructors();
        check.due("constructors", constructors.length, 1);
        check.due("constructor(int)", Arrays.equals(constructors[0].getParameterTypes(), new Class<?>[] {int.class}) ? 1 : 0, 1);
        Class<?>[] thrown = desk.getMethod("limb", int.class, int.class, int.class).getExceptionTypes();
        check.due("limb throws", Arrays.equals(thrown, new Class<?>[] {IndexOutOfBoundsException.class}) ? 1 : 0, 1);
    }

    private static String signature(Method method) {
        StringBuilder text = new StringBuilder(method.getReturnType().getSimpleName() + " " + method.getName() + "(");
        for (Class<?> type : method.getParameterTypes()) {
            text.append(text.charAt(text.length() - 1) == '(' ? "" : ",").append(type.getSimpleName());
        }
        return text.append(")").toString();
    }

    private static void nested() {
        for (Class<?> inside : BallDesk.class.getDeclaredClasses()) {
            int how = inside.getModifiers();
            check.due(inside + " static", Modifier.isStatic(how) ? 1 : 0, 1);
            check.due(inside + " closed", Modifier.isPublic(how) || Modifier.isProtected(how) ? 1 : 0, 0);
            for (Field field : inside.getDeclaredFields()) {
                boolean free = Modifier.isStatic(field.getModifiers()) && !Modifier.isFinal(field.getModifiers());
                check.due("static state: " + field, free ? 1 : 0, 0);
            }
        }
    }

    private static void sizes() throws IOException {
        Class<?>[] inside = BallDesk.class.getDeclaredClasses();
        atMost("classes", inside.length + 1, 12);
        sizes(BallDesk.class);
        for (Class<?> nested : inside) {
            sizes(nested);
        }
        methodLengths(Files.readAllLines(Path.of("src/main/java/BallDesk.java")));
    }

    private static void sizes(Class<?> type) {
        int fields = 0;
        for (Field field : type.getDeclaredFields()) {
            fields += Modifier.isStatic(field.getModifiers()) ? 0 : 1;
        }
        atMost("fields of " + type, fields, 20);
        for (Method method : type.getDeclaredMethods()) {
            atMost("parameters of " + method, method.getParameterCount(), 7);
        }
    }

    /** A method's last line is as far in as its first. */
    private static void methodLengths(List<String> lines) {
        for (int n = 0; n < lines.size(); n++) {
            Matcher first = Pattern.compile("( +)[\\w ]*\\w\\([^;=]*\\)[\\w ]* \\{").matcher(lines.get(n));
            if (first.matches() && first.group(1).length() <= 8) {
                int length = lines.subList(n, lines.size()).indexOf(first.group(1) + "}") + 1;
                atMost("lines of" + lines.get(n), length, 60);
            }
        }
    }

    private static void atMost(String what, int got, int most) {
        check.due(what + ", " + got + ", at most " + most, got <= most ? 1 : 0, 1);
    }

    private static void words(String source) {
        String code = source.replaceAll("(?s)/\\*.*?\\*/", "").replaceAll("//[^\n]*", "");
        for (String word : NOT_TO_STAND) {
            Matcher found = Pattern.compile(word).matcher(code);
            check.due("the code has " + word, found.find() ? 1 : 0, 0);
        }
    }
}
