import java.io.IOException;
import java.lang.reflect.InvocationTargetException;
import java.lang.reflect.Method;
import java.lang.reflect.Modifier;
import java.nio.file.Files;
import java.nio.file.Path;
import java.util.Arrays;
import java.util.List;
import java.util.regex.Matcher;
import java.util.regex.Pattern;
import java.util.stream.Stream;

/** README.md: its examples are played as one run of calls; it names every call of the face and every test. */
public final class ReadmeTest {
    private static final Path README = Path.of("README.md");
    private static final Path TESTS = Path.of("src/test/java");
    private static final Pattern ASKED = Pattern.compile("x\\.(\\w+)\\((.*)\\); +// (-?\\d+|NONE|true|false)(: .*)?");
    private static final Pattern TEXT = Pattern.compile("put\\(x, \"(.*)\"\\);");
    private static final Pattern BYTES = Pattern.compile("put\\(x, ([\\d, ]+)\\);");
    private static TrainCollector x;
    private static int wrong = 0;
    private static int checked = 0;

    // The three that README.md shows, word for word.
    static void put(TrainCollector x, int... bytes) {
        x.end(0);
        for (int i = 0; i < bytes.length; i += 20) {
            int[] five = new int[5];
            for (int k = 0; k < 20; k++) {
                five[k / 4] = five[k / 4] << 8 | (i + k < bytes.length ? bytes[i + k] & 255 : 0);
            }
            x.feed(five[0], five[1], five[2], five[3], five[4]);
        }
        x.end(bytes.length);
    }

    static void put(TrainCollector x, String text) {
        put(x, text.chars().toArray());
    }

    static int[] image(TrainCollector x) {
        int[] bytes = new int[x.image()];
        for (int k = 0; k < bytes.length; k++) {
            bytes[k] = x.octet(k);
        }
        return bytes;
    }

    private static void must(boolean good, String what) {
        checked++;
        if (!good) {
            wrong++;
            System.out.println(what);
        }
    }

    private static int number(String told) {
        return told.equals("NONE") ? TrainCollector.NONE : Integer.parseInt(told);
    }

    private static int[] numbers(String told) {
        return told.isEmpty() ? new int[0] : Arrays.stream(told.split(", ")).mapToInt(ReadmeTest::number).toArray();
    }

    private static Method named(String name) {
        for (Method m : TrainCollector.class.getMethods()) {
            if (m.getName().equals(name) && m.getDeclaringClass() == TrainCollector.class) {
                return m;
            }
        }
        throw new IllegalStateException("no call is named " + name);
    }

    private static String answer(String name, int[] arguments) {
        try {
            Object[] boxed = Arrays.stream(arguments).boxed().toArray();
            return String.valueOf(named(name).invoke(x, boxed));
        } catch (IllegalAccessException | InvocationTargetException e) {
            return e.toString();
        }
    }

    private static void play(String line) {
        Matcher asked = ASKED.matcher(line);
        Matcher text = TEXT.matcher(line);
        Matcher bytes = BYTES.matcher(line);
        if (line.equals("TrainCollector x = new TrainCollector();")) {
            x = new TrainCollector();
        } else if (line.equals("put(x, image(x));")) {
            put(x, image(x));
        } else if (text.matches()) {
            put(x, text.group(1));
        } else if (bytes.matches()) {
            put(x, numbers(bytes.group(1)));
        } else if (asked.matches()) {
            String told = asked.group(3).equals("NONE") ? "" + TrainCollector.NONE : asked.group(3);
            String got = answer(asked.group(1), numbers(asked.group(2)));
            must(got.equals(told), line + " answered " + got);
        } else {
            must(false, "an example that can't be played: " + line);
        }
    }

    private static void examples(String page, String own) {
        Matcher blocks = Pattern.compile("(?s)```java\n(.*?)```").matcher(page);
        int played = 0;
        while (blocks.find()) {
            String block = blocks.group(1);
            if (block.startsWith("static")) {
                for (String function : block.split("\n\n")) {
                    String indented = function.strip().replaceAll("(?m)^", "    ");
                    must(own.contains(indented), "not played as it is told:\n" + function);
                }
            } else {
                block.lines().forEach(ReadmeTest::play);
                played++;
            }
        }
        must(played >= 7, "only " + played + " examples");
    }

    private static void names(String page) throws IOException {
        for (Method m : TrainCollector.class.getDeclaredMethods()) {
            if (Modifier.isPublic(m.getModifiers())) {
                String before = Pattern.quote(m.getName());
                must(Pattern.compile("`(x\\.)?" + before + "[(`]").matcher(page).find(), "no word of " + m.getName());
            }
        }
        List<String> files;
        try (Stream<Path> all = Files.list(TESTS)) {
            files = all.map(p -> p.getFileName().toString()).toList();
        }
        for (String file : files) {
            must(page.contains("| `" + file + "` |"), "no word of " + file);
        }
        Matcher told = Pattern.compile("\\| `(\\w+\\.java)` \\|").matcher(page);
        while (told.find()) {
            must(files.contains(told.group(1)), "there is no " + told.group(1));
        }
        must(page.contains("\n    .ci/run\n"), "no word of how to run the tests");
    }

    public static void main(String[] args) throws IOException {
        String page = Files.readString(README);
        examples(page, Files.readString(TESTS.resolve("ReadmeTest.java")));
        names(page);
        System.out.println(wrong == 0 ? checked + " words of README.md hold" : wrong + " words of README.md do not hold");
        if (wrong != 0) {
            System.exit(1);
        }
    }
}
