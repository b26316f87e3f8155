import java.io.IOException;
import java.lang.reflect.InvocationTargetException;
import java.lang.reflect.Method;
import java.nio.charset.StandardCharsets;
import java.nio.file.Files;
import java.nio.file.Path;
import java.util.ArrayList;
import java.util.List;
import java.util.Set;
import java.util.TreeSet;
import java.util.regex.Matcher;
import java.util.regex.Pattern;
import java.util.stream.Stream;

/** What README.md shows of calls and answers is so; all calls of the face and all files of tests are on it. */
public final class ReadmeTest {
    private static final String MADE = "ThreeLadders x = new ThreeLadders();";
    private static final Pattern CALL = Pattern.compile("x\\.(\\w+)\\((.*?)\\);\\s*// (throws \\w+|true|false|-?\\d+)(: .*)?");
    private static final Pattern QUOTED = Pattern.compile("\"([^\"]*)\"");
    private static final Pattern JAVA = Pattern.compile("```java\n(.*?)```", Pattern.DOTALL);
    private static final Pattern FACE = Pattern.compile("    public ((?:int|boolean) \\w+\\(.*?\\)).*;");
    private static final Pattern FILE = Pattern.compile("`(\\w+)`");

    private final String page;
    private final Set<String> shown = new TreeSet<>();
    private ThreeLadders x;
    private int calls;

    private ReadmeTest(String page) {
        this.page = page;
    }

    private static Method named(String name) {
        for (Method method : ThreeLadders.class.getMethods()) {
            if (method.getName().equals(name)) {
                return method;
            }
        }
        return null;
    }

    private static Object[] arguments(Method method, String told) {
        Class<?>[] types = method.getParameterTypes();
        String[] parts = told.isBlank() ? new String[0] : told.split(",");
        Object[] made = new Object[types.length];
        for (int i = 0; i < types.length && i < parts.length; i++) {
            long value = Long.decode(parts[i].trim().replace("L", ""));
            made[i] = types[i] == long.class ? (Object) value : (Object) (int) value;
        }
        return parts.length == types.length ? made : null;
    }

    private String answer(Method method, Object[] with) throws IllegalAccessException {
        try {
            return String.valueOf(method.invoke(x, with));
        } catch (InvocationTargetException e) {
            return "throws " + e.getCause().getClass().getSimpleName();
        }
    }

    /** The bytes of a feed as signs, to be compared with the text that the page says they are. */
    private static String fed(Object[] five) {
        StringBuilder made = new StringBuilder();
        for (Object four : five) {
            for (int shift = 24; shift >= 0; shift -= 8) {
                int sign = ((Integer) four >>> shift) & 255;
                if (sign != 0) {
                    made.append((char) sign);
                }
            }
        }
        return made.toString();
    }

    private void line(String line) throws IllegalAccessException {
        if (line.equals(MADE)) {
            x = new ThreeLadders();
            return;
        }
        Matcher found = CALL.matcher(line);
        boolean read = found.matches() && named(found.group(1)) != null && x != null;
        Object[] with = read ? arguments(named(found.group(1)), found.group(2)) : null;
        Due.is("README.md, '" + line + "' is a call with its answer", with != null, true);
        if (with == null) {
            return;
        }
        calls++;
        shown.add(found.group(1));
        String got = answer(named(found.group(1)), with);
        Due.is("README.md, '" + line + "' answered " + got + "; that it is as shown", got.equals(found.group(3)), true);
        if (found.group(1).equals("feed")) {
            Matcher text = QUOTED.matcher(line);
            Due.is("README.md, '" + line + "' feeds the text that it says",
                    text.find() && text.group(1).equals(fed(with)), true);
        }
    }

    private void run() throws IllegalAccessException {
        Matcher blocks = JAVA.matcher(page);
        while (blocks.find()) {
            for (String line : blocks.group(1).split("\n")) {
                line(line);
            }
        }
        Due.is("README.md shows an object's 512 calls at most", calls > 0 && calls <= 512, true);
        for (Method method : ThreeLadders.class.getDeclaredMethods()) {
            if (method.canAccess(x)) {
                Due.is("README.md shows a call of " + method.getName(), shown.contains(method.getName()), true);
            }
        }
        Due.is("README.md, NONE", page.contains("`NONE` is " + ThreeLadders.NONE + ","), true);
        Due.is("README.md, HIDDEN", page.contains("`HIDDEN` is " + ThreeLadders.HIDDEN + "."), true);
    }

    private void allCalls(Path document) throws IOException {
        Matcher face = FACE.matcher(Files.readString(document, StandardCharsets.UTF_8));
        int many = 0;
        while (face.find()) {
            many++;
            Due.is("README.md tells of " + face.group(1), page.contains("| `" + face.group(1) + "` |"), true);
        }
        Due.is("calls of the document's face", many, 32);
    }

    private void allFiles(Path tests) throws IOException {
        Set<String> told = new TreeSet<>();
        Matcher names = FILE.matcher(page.substring(page.indexOf("## Tests")));
        while (names.find()) {
            told.add(names.group(1));
        }
        List<String> files = new ArrayList<>();
        try (Stream<Path> all = Files.list(tests)) {
            all.forEach(file -> files.add(file.getFileName().toString().replace(".java", "")));
        }
        for (String file : files) {
            Due.is("README.md tells of " + file, told.contains(file), true);
        }
        for (String name : told) {
            boolean program = name.equals("javac") || name.equals("java");
            Due.is("README.md tells of " + name + ", which is there", program || files.contains(name), true);
        }
    }

    public static void main(String[] args) throws IOException, IllegalAccessException {
        Path project = Due.project(args);
        ReadmeTest test = new ReadmeTest(Files.readString(project.resolve("README.md"), StandardCharsets.UTF_8));
        test.run();
        test.allCalls(project.resolve("../shared/DOC.md").normalize());
        test.allFiles(project.resolve("src/test/java"));
        Due.is(".ci/run can be run", Files.isExecutable(project.resolve(".ci/run")), true);
        Due.end("ReadmeTest");
    }
}
