import java.io.IOException;
import java.lang.reflect.Constructor;
import java.lang.reflect.Executable;
import java.lang.reflect.Field;
import java.lang.reflect.Method;
import java.lang.reflect.Modifier;
import java.nio.file.Files;
import java.nio.file.Path;
import java.util.ArrayList;
import java.util.List;
import java.util.Set;
import java.util.TreeSet;
import java.util.regex.Matcher;
import java.util.regex.Pattern;

/** What LANGUAGE.md rules out, as far as it can be seen in the source and in the compiled class. */
public final class RulesTest {
    private static final String SOURCE = "src/main/java/TrainCollector.java";
    private static final Set<String> FACE = Set.of("feed(int,int,int,int,int)int", "end(int)boolean", "heap()int",
        "fault(int)int", "has(int)int", "letter(int,int)int", "thing(int,int)int", "link(int,int)int", "root(int)int",
        "train(int,int)int", "car(int,int,int)int", "falls(int)int", "clean()int", "later(int,int)int",
        "retains(int)int", "holder(int)int", "far(int)int", "ring(int)int", "odds(int)int", "meet()int",
        "sizes(int,int)int", "tells(int,int)int", "steps(int)int", "chance(int)int", "make(int,int)int",
        "set(int,int,int)boolean", "aim(int,int)boolean", "undo()boolean", "seed(int)boolean", "kept(int,int)int",
        "image()int", "octet(int)int", "on()boolean", "status(int)int");
    private static final Set<String> LIBRARY = Set.of("Arrays.fill", "System.arraycopy", "Math.floorDiv",
        "Math.floorMod", "Math.max", "Long.bitCount");
    private static int wrong = 0;

    private static void must(boolean good, String what) {
        if (!good) {
            wrong++;
            System.out.println(what);
        }
    }

    /** The source without comments and with empty texts. */
    private static String bare(String source) {
        return source.replaceAll("(?s)/\\*.*?\\*/", "").replaceAll("//[^\n]*", "")
            .replaceAll("\"[^\"\n]*\"", "\"\"").replaceAll("'(\\\\.|[^'])'", "' '");
    }

    private static void words(String code) {
        for (String word : List.of("throw", "throws", "try", "catch", "synchronized", "assert", "instanceof", "volatile",
            "native", "transient", "enum", "record", "extends", "implements", "protected", "package", "null instanceof")) {
            must(!Pattern.compile("\\b" + word + "\\b").matcher(code).find(), "the word " + word + " stands there");
        }
        for (String sign : List.of("->", "::", "while (true)", "for (;;)", "\"\" +", "+ \"\"", "@", "...", "< >", "<>")) {
            must(!code.contains(sign), "the sign " + sign + " stands there");
        }
        Matcher imports = Pattern.compile("import ([\\w.*]+);").matcher(code);
        while (imports.find()) {
            must(imports.group(1).equals("java.util.Arrays"), "import " + imports.group(1));
        }
        Matcher calls = Pattern.compile("\\b(Arrays|System|Math|Long|Integer|Thread|Runtime)\\.(\\w+)").matcher(code);
        while (calls.find()) {
            must(LIBRARY.contains(calls.group(1) + "." + calls.group(2)), "the library's " + calls.group());
        }
    }

    private static void lengths(String code) {
        int depth = 0;
        int begin = 0;
        String[] lines = code.split("\n");
        for (int i = 0; i < lines.length; i++) {
            boolean opens = lines[i].matches(" +(private |public |static |final )*[\\w\\[\\]]+ \\w*\\(?.*\\) \\{")
                && !lines[i].matches(".*\\b(if|for|while|switch|else)\\b.*");
            if (opens) {
                begin = i;
                depth = lines[i].indexOf(lines[i].trim());
            }
            if (lines[i].trim().equals("}") && lines[i].indexOf('}') == depth && begin > 0) {
                must(i - begin <= 60, "a method of " + (i - begin) + " lines ends at line " + i);
                begin = 0;
            }
        }
    }

    private static String signature(Method m) {
        List<String> types = new ArrayList<>();
        for (Class<?> type : m.getParameterTypes()) {
            types.add(type.getSimpleName());
        }
        return m.getName() + "(" + String.join(",", types) + ")" + m.getReturnType().getSimpleName();
    }

    private static void face() {
        Class<?> c = TrainCollector.class;
        must(Modifier.isPublic(c.getModifiers()) && Modifier.isFinal(c.getModifiers()), "the class is public and final");
        Set<String> seen = new TreeSet<>();
        Set<String> names = new TreeSet<>();
        for (Method m : c.getDeclaredMethods()) {
            if (Modifier.isPublic(m.getModifiers())) {
                seen.add(signature(m));
                names.add(m.getName());
            }
        }
        must(seen.equals(new TreeSet<>(FACE)), "the face is " + seen);
        for (Method m : c.getDeclaredMethods()) {
            boolean open = Modifier.isPublic(m.getModifiers());
            must(open || Modifier.isPrivate(m.getModifiers()), m + " is neither public nor private");
            must(open || !names.contains(m.getName()), m + " bears a public name");
        }
        for (Constructor<?> k : c.getDeclaredConstructors()) {
            must(Modifier.isPublic(k.getModifiers()) && k.getParameterCount() == 0, "a constructor " + k);
        }
        for (Field f : c.getDeclaredFields()) {
            boolean none = f.getName().equals("NONE") && Modifier.isPublic(f.getModifiers());
            must(none || Modifier.isPrivate(f.getModifiers()), f + " is not private");
        }
    }

    private static void inside(Class<?> c, Set<String> names) {
        int fields = 0;
        for (Field f : c.getDeclaredFields()) {
            boolean fixed = Modifier.isStatic(f.getModifiers());
            fields += fixed ? 0 : 1;
            must(!fixed || Modifier.isFinal(f.getModifiers()), f + " is static and not final");
            must(!fixed || f.getType().isPrimitive() || f.getType() == String.class, f + " is no constant");
        }
        must(fields <= 22, c + " has " + fields + " fields");
        List<Executable> all = new ArrayList<>(List.of(c.getDeclaredMethods()));
        all.addAll(List.of(c.getDeclaredConstructors()));
        for (Executable e : all) {
            must(e.getParameterCount() <= 7, e + " takes too many");
            must(c == TrainCollector.class || !names.contains(e.getName()), e + " bears a public name");
        }
    }

    public static void main(String[] args) throws IOException {
        String code = bare(Files.readString(Path.of(SOURCE)));
        words(code);
        lengths(code);
        face();
        Set<String> names = new TreeSet<>();
        FACE.forEach(s -> names.add(s.substring(0, s.indexOf('('))));
        inside(TrainCollector.class, names);
        Class<?>[] classes = TrainCollector.class.getDeclaredClasses();
        must(classes.length <= 12, classes.length + " classes inside");
        for (Class<?> c : classes) {
            must(Modifier.isStatic(c.getModifiers()) && Modifier.isPrivate(c.getModifiers()), c + " is open");
            inside(c, names);
        }
        System.out.println(wrong == 0 ? "no rule is broken" : wrong + " rules are broken");
        if (wrong != 0) {
            System.exit(1);
        }
    }
}
