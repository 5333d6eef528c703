import java.lang.reflect.Method;
import java.nio.file.Files;
import java.nio.file.Path;
import java.util.Arrays;
import java.util.Set;
import java.util.TreeSet;
import java.util.regex.Matcher;
import java.util.regex.Pattern;
import java.util.stream.Stream;

/** What README.md says is true: its examples answer so, and what it names is there. */
public final class ReadmeTest {
    private static final Pattern BLOCK = Pattern.compile("(?s)```java\n(.*?)```");
    private static final Pattern CALL = Pattern.compile("x\\.(\\w+)\\((.*?)\\); +// (-?\\w+)(?:: .*)?");
    private static final String MADE = "ThirstLead x = new ThirstLead();";
    private static final Set<String> HELPERS_NAMED = Set.of("Model", "Twins");

    public static void main(String[] args) throws Exception {
        String readme = Files.readString(Path.of("README.md"));
        examples(readme);
        namedTests(readme);
        namedClasses(readme);
        Due.end("ReadmeTest");
    }

    private static void examples(String readme) throws Exception {
        ThirstLead x = null;
        int calls = 0;
        Matcher blocks = BLOCK.matcher(readme);
        while (blocks.find()) {
            for (String line : blocks.group(1).split("\n")) {
                Matcher call = CALL.matcher(line);
                if (line.equals(MADE)) {
                    x = new ThirstLead();
                } else if (x != null && call.matches()) {
                    Due.is(line, answer(x, call.group(1), call.group(2)), number(call.group(3)));
                    calls++;
                } else {
                    Due.holds("an example can be read: " + line, false);
                }
            }
        }
        Due.holds("there are examples", calls > 0);
    }

    private static int answer(ThirstLead x, String name, String numbers) throws Exception {
        Object[] args = Arrays.stream(numbers.split(", ")).filter(s -> !s.isEmpty()).map(ReadmeTest::boxed).toArray();
        for (Method m : ThirstLead.class.getMethods()) {
            if (m.getName().equals(name) && m.getParameterCount() == args.length) {
                return (int) m.invoke(x, args);
            }
        }
        Due.holds("there is a call " + name + " with " + args.length + " numbers", false);
        return 0;
    }

    private static Object boxed(String s) {
        try {
            return number(s);
        } catch (ReflectiveOperationException e) {
            throw new IllegalStateException(s, e);
        }
    }

    private static int number(String s) throws ReflectiveOperationException {
        String constant = s.replace("ThirstLead.", "");
        if (constant.matches("[A-Z]+")) {
            return ThirstLead.class.getField(constant).getInt(null);
        }
        return Integer.decode(constant);
    }

    /** Each test that lies here is named, and each that is named lies here. */
    private static void namedTests(String readme) throws Exception {
        Set<String> named = new TreeSet<>();
        Matcher m = Pattern.compile("`(\\w+Test)`").matcher(readme);
        while (m.find()) {
            named.add(m.group(1));
        }
        Set<String> there = new TreeSet<>();
        try (Stream<Path> files = Files.list(Path.of("src/test/java"))) {
            files.map(f -> f.getFileName().toString().replace(".java", "")).forEach(there::add);
        }
        Due.holds("helpers that are named are there", there.containsAll(HELPERS_NAMED));
        there.removeIf(name -> !name.endsWith("Test"));
        Due.holds("the tests named " + named + " are those that are there " + there, named.equals(there));
    }

    private static void namedClasses(String readme) {
        String built = readme.substring(readme.indexOf("## How it is built"), readme.indexOf("## Tests"));
        for (Class<?> c : ThirstLead.class.getDeclaredClasses()) {
            Due.holds("the class inside " + c.getSimpleName() + " is named", built.contains("`" + c.getSimpleName() + "`"));
        }
        Set<String> inside = new TreeSet<>();
        Arrays.stream(ThirstLead.class.getDeclaredClasses()).forEach(c -> inside.add(c.getSimpleName()));
        Matcher m = Pattern.compile("`([A-Z]\\w+)`").matcher(built);
        while (m.find()) {
            Due.holds("the class inside " + m.group(1) + " is there", inside.contains(m.group(1)));
        }
    }
}
