import java.lang.reflect.Method;
import java.nio.file.Files;
import java.nio.file.Path;
import java.util.ArrayList;
import java.util.Comparator;
import java.util.List;
import java.util.regex.Matcher;
import java.util.regex.Pattern;

/** Runs tests of single sentences: each is named by its promise and quotes what the document says. */
final class Edges {
    private static final Path DOCUMENT = Path.of("../shared/DOC.md");
    private static final Pattern NAME = Pattern.compile("promise(\\d\\d)_\\w+");
    private static final int SECONDS_AT_MOST = 60;

    private Edges() {
    }

    /** Runs every test of a class, and ends with exit code 1, if one fails. */
    static void run(Class<?> tests) throws Exception {
        endInTime(tests);
        String document = Files.readString(DOCUMENT);
        for (Method test : testsOf(tests)) {
            Due.names(test.getName());
            promiseOf(test);
            for (String said : test.getAnnotation(Says.class).value()) {
                Due.holds("the document says: " + said, !said.isEmpty() && document.contains(said));
            }
            test.setAccessible(true);
            test.invoke(null);
        }
        Due.names("");
        Due.end(tests.getName());
    }

    /** A call that does not end is a fault as well, and must not hold up the other tests. */
    private static void endInTime(Class<?> tests) {
        Thread watch = new Thread(() -> {
            try {
                Thread.sleep(1000L * SECONDS_AT_MOST);
                System.out.println(tests.getName() + ": not ended within " + SECONDS_AT_MOST + " seconds, in " + Due.named());
                Runtime.getRuntime().halt(1);
            } catch (InterruptedException e) {
                Thread.currentThread().interrupt();
            }
        });
        watch.setDaemon(true);
        watch.start();
    }

    /** The tests in the order of their names, so that each run is the same. */
    static List<Method> testsOf(Class<?> tests) {
        List<Method> all = new ArrayList<>();
        for (Method m : tests.getDeclaredMethods()) {
            boolean named = NAME.matcher(m.getName()).matches();
            boolean quotes = m.isAnnotationPresent(Says.class);
            Due.holds(m.getName() + " quotes the document, if it is named by a promise", named == quotes);
            if (named && quotes) {
                all.add(m);
            }
        }
        all.sort(Comparator.comparing(Method::getName));
        return all;
    }

    static int promiseOf(Method test) {
        Matcher m = NAME.matcher(test.getName());
        return m.matches() ? Integer.parseInt(m.group(1)) : 0;
    }
}
