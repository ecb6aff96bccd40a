import java.io.IOException;
import java.lang.reflect.InvocationTargetException;
import java.lang.reflect.Method;
import java.lang.reflect.Modifier;
import java.nio.file.DirectoryStream;
import java.nio.file.Files;
import java.nio.file.LinkOption;
import java.nio.file.Path;
import java.util.ArrayList;
import java.util.HashMap;
import java.util.List;
import java.util.Map;
import java.util.TreeSet;
import java.util.regex.Matcher;
import java.util.regex.Pattern;

/** README.md is so: the calls that it shows answer as it says, its commands run, and it names every test. */
public final class ReadmeTest {
    private static final Path README = Path.of("README.md");
    private static final Pattern MADE = Pattern.compile("BallDesk (\\w+) = new BallDesk\\((-?\\d+)\\);");
    private static final Pattern CALL = Pattern.compile("(\\w+)\\.(\\w+)\\((.*)\\); +// (throws \\w+|\\w+|-\\d+)(: .*)?");
    private static final Pattern CONSTANT = Pattern.compile("`([A-Z]+)` \\((-?\\d+)\\)");
    private static final Pattern SIZE = Pattern.compile("(\\d+) objects and arrays with\\s+(\\d+) fields and elements");
    private static final String RUN = ".ci/run";

    private static final Check check = new Check();
    private static final Map<String, BallDesk> desks = new HashMap<>();
    private static final TreeSet<String> shown = new TreeSet<>();

    public static void main(String[] args) throws IOException, ReflectiveOperationException, InterruptedException {
        String text = Files.readString(README);
        for (String line : linesOf(text, "java")) {
            line(line);
        }
        everyMethodIsShown();
        constants(text);
        size(text);
        tests(text);
        commands(linesOf(text, "sh"));
        check.end("ReadmeTest");
    }

    private static List<String> linesOf(String text, String language) {
        List<String> lines = new ArrayList<>();
        boolean inside = false;
        for (String line : text.split("\n")) {
            if (line.startsWith("```")) {
                inside = line.equals("```" + language);
            } else if (inside && !line.isBlank()) {
                lines.add(line);
            }
        }
        return lines;
    }

    private static void line(String line) throws ReflectiveOperationException {
        Matcher made = MADE.matcher(line);
        Matcher call = CALL.matcher(line);
        if (made.matches()) {
            desks.put(made.group(1), new BallDesk(Integer.parseInt(made.group(2))));
        } else if (call.matches()) {
            shown.add(call.group(2));
            String got = answer(desks.get(call.group(1)), call.group(2), call.group(3).split(", "));
            isSo(line + " answers " + got, got.equals(due(call.group(4))));
        } else {
            isSo(line + " is no call with its answer", false);
        }
    }

    private static String answer(BallDesk desk, String name, String[] words) throws ReflectiveOperationException {
        Method method = methodOf(name);
        Object[] told = new Object[words.length];
        for (int n = 0; n < words.length; n++) {
            told[n] = value(method.getParameterTypes()[n], words[n]);
        }
        try {
            return method.invoke(desk, told).toString();
        } catch (InvocationTargetException e) {
            return "throws " + e.getCause().getClass().getSimpleName();
        }
    }

    private static Method methodOf(String name) throws NoSuchMethodException {
        for (Method method : BallDesk.class.getDeclaredMethods()) {
            if (Modifier.isPublic(method.getModifiers()) && method.getName().equals(name)) {
                return method;
            }
        }
        throw new NoSuchMethodException(name);
    }

    private static Object value(Class<?> type, String word) {
        if (type == boolean.class) {
            return word.equals("true");
        }
        if (type == long.class) {
            return Long.valueOf(word.replace("L", ""));
        }
        return Integer.valueOf(word);
    }

    private static String due(String word) throws ReflectiveOperationException {
        return word.matches("[A-Z]+") ? String.valueOf(constant(word)) : word;
    }

    private static int constant(String name) throws ReflectiveOperationException {
        return BallDesk.class.getField(name).getInt(null);
    }

    private static void everyMethodIsShown() {
        for (Method method : BallDesk.class.getDeclaredMethods()) {
            if (Modifier.isPublic(method.getModifiers())) {
                isSo(method.getName() + " is shown", shown.contains(method.getName()));
            }
        }
    }

    private static void constants(String text) throws ReflectiveOperationException {
        Matcher found = CONSTANT.matcher(text);
        int told = 0;
        while (found.find()) {
            check.due(found.group(1), constant(found.group(1)), Integer.parseInt(found.group(2)));
            told++;
        }
        check.due("constants told", told, BallDesk.class.getFields().length);
    }

    private static void size(String text) throws IllegalAccessException {
        Room room = new Room(new BallDesk(192));
        Matcher found = SIZE.matcher(text);
        isSo("the size of an object is told", found.find());
        check.due("objects and arrays", room.objects(), Integer.parseInt(found.group(1)));
        check.due("fields and elements", room.elements(), Integer.parseInt(found.group(2)));
    }

    private static void tests(String text) throws IOException {
        TreeSet<String> named = new TreeSet<>();
        Matcher found = Pattern.compile("`(\\w+Test)`").matcher(text);
        while (found.find()) {
            named.add(found.group(1));
        }
        TreeSet<String> here = new TreeSet<>();
        try (DirectoryStream<Path> files = Files.newDirectoryStream(Path.of("src/test/java"), "*Test.java")) {
            for (Path file : files) {
                here.add(file.getFileName().toString().replace(".java", ""));
            }
        }
        isSo("the tests named " + named + " are the tests " + here, named.equals(here));
    }

    /** All but .ci/run, which has this test run; in a directory of their own, with the project's src. */
    private static void commands(List<String> lines) throws IOException, InterruptedException {
        isSo(RUN + " is told", lines.contains(RUN));
        isSo(RUN + " can be run", Files.isExecutable(Path.of(RUN)));
        Path place = Files.createTempDirectory("readme");
        Files.createSymbolicLink(place.resolve("src"), Path.of("src").toAbsolutePath());
        for (String line : lines) {
            if (!line.equals(RUN)) {
                ProcessBuilder command = new ProcessBuilder("sh", "-c", line).directory(place.toFile());
                command.redirectErrorStream(true).redirectOutput(ProcessBuilder.Redirect.DISCARD);
                check.due(line, command.start().waitFor(), 0);
            }
        }
        remove(place);
    }

    private static void remove(Path place) throws IOException {
        if (Files.isDirectory(place, LinkOption.NOFOLLOW_LINKS)) {
            try (DirectoryStream<Path> inside = Files.newDirectoryStream(place)) {
                for (Path path : inside) {
                    remove(path);
                }
            }
        }
        Files.delete(place);
    }

    private static void isSo(String what, boolean so) {
        check.due(what, so ? 1 : 0, 1);
    }
}
