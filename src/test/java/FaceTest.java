import java.lang.reflect.Constructor;
import java.lang.reflect.Field;
import java.lang.reflect.Method;
import java.lang.reflect.Modifier;
import java.nio.file.Files;
import java.nio.file.Path;
import java.util.Arrays;
import java.util.List;
import java.util.Set;
import java.util.TreeSet;
import java.util.regex.Matcher;
import java.util.regex.Pattern;

/** The public face and the rules of LANGUAGE.md that can be seen from outside or from the source. */
public final class FaceTest {
    private static final String SOURCE = "src/main/java/ThirstLead.java";
    private static final Set<String> CALLS = new TreeSet<>(List.of(
        "walker 3", "told 2", "as 2", "turns 2", "set 3", "water 2", "rule 2", "deal 1", "seed 1", "hours 1", "band 1",
        "behind 2", "lasts 0", "salted 2", "tells 3", "custom 1", "enough 1", "shown 1", "thirsted 3", "fee 0", "fine 1",
        "feed 3", "trim 1", "text 0", "textTold 2", "why 1", "sheet 3", "mark 3", "pour 1", "reads 1", "copy 5", "lay 3",
        "ask 2", "item 2", "rest 2", "tell 1", "check 1", "keep 0", "back 0", "count 1"));
    private static final Set<String> CONSTANTS = new TreeSet<>(List.of(
        "BAD -1000000001", "NO -1000000002", "FULL -1000000003", "NONE -1000000005", "NOTHING -1000000011",
        "KIND -1000000012", "INDEX -1000000013", "SIZE -1000000014"));

    public static void main(String[] args) throws Exception {
        face();
        classesInside();
        source();
        Due.end("FaceTest");
    }

    private static void face() throws Exception {
        Class<?> c = ThirstLead.class;
        Due.holds("public and final", Modifier.isPublic(c.getModifiers()) && Modifier.isFinal(c.getModifiers()));
        Set<String> calls = new TreeSet<>();
        for (Method m : c.getDeclaredMethods()) {
            if (Modifier.isPublic(m.getModifiers())) {
                calls.add(m.getName() + " " + m.getParameterCount());
                Due.holds(m + " is of ints", m.getReturnType() == int.class
                    && Arrays.stream(m.getParameterTypes()).allMatch(t -> t == int.class) && !Modifier.isStatic(m.getModifiers()));
            } else {
                Due.holds(m + " is private", Modifier.isPrivate(m.getModifiers()));
                Due.holds(m + " bears a name of its own", CALLS.stream().noneMatch(s -> s.startsWith(m.getName() + " ")));
            }
        }
        Due.holds("the calls are " + calls, calls.equals(CALLS));
        Set<String> constants = new TreeSet<>();
        for (Field f : c.getDeclaredFields()) {
            if (Modifier.isPublic(f.getModifiers())) {
                constants.add(f.getName() + " " + f.getInt(null));
            } else {
                Due.holds(f + " is private", Modifier.isPrivate(f.getModifiers()));
            }
        }
        Due.holds("the constants are " + constants, constants.equals(CONSTANTS));
        Constructor<?>[] made = c.getDeclaredConstructors();
        Due.holds("one constructor", made.length == 1 && Modifier.isPublic(made[0].getModifiers())
            && made[0].getParameterCount() == 0);
    }

    private static void classesInside() {
        Class<?>[] inside = ThirstLead.class.getDeclaredClasses();
        Due.holds("some twelve classes at most", inside.length + 1 <= 12);
        for (Class<?> c : inside) {
            Due.holds(c + " is static", Modifier.isStatic(c.getModifiers()) && !Modifier.isPublic(c.getModifiers()));
            long fields = Arrays.stream(c.getDeclaredFields()).filter(f -> !Modifier.isStatic(f.getModifiers())).count();
            Due.holds(c + " has some twenty fields at most", fields <= 20);
            for (Field f : c.getDeclaredFields()) {
                Due.holds(f + " is final, if static", !Modifier.isStatic(f.getModifiers()) || Modifier.isFinal(f.getModifiers()));
            }
            for (Method m : c.getDeclaredMethods()) {
                Due.holds(m + " has seven parameters at most", m.getParameterCount() <= 7);
                Due.holds(m + " bears a name of its own", CALLS.stream().noneMatch(s -> s.startsWith(m.getName() + " ")));
            }
        }
    }

    private static void source() throws Exception {
        String text = Files.readString(Path.of(SOURCE));
        Due.holds("signs of the source are plain", text.chars().allMatch(c -> c == '\n' || (c >= 32 && c < 127)));
        String code = text.replaceAll("(?s)/\\*.*?\\*/|//[^\n]*", "").replaceAll("\"[^\"\n]*\"|'[^'\n]'", "0");
        String[] ruledOut = {
            "\\bthrow\\b", "\\bthrows\\b", "\\btry\\b", "\\bcatch\\b", "\\bfinally\\b", "\\bsynchronized\\b", "\\bassert\\b",
            "\\bimport\\b", "\\bpackage\\b", "->", "::", "Exact\\b", "\\bstatic\\s*\\{", "\\bvar\\b", "\\bequals\\b",
            "\\bhashCode\\b", "\\btoString\\b", "\\bObject\\b", "\\bException\\b", "\\bThread\\b", "\\bwhile\\s*\\(true\\)"};
        for (String r : ruledOut) {
            Matcher m = Pattern.compile(r).matcher(code);
            Due.holds("the source is without " + r, !m.find());
        }
        Matcher library = Pattern.compile("\\b(System|Arrays|Integer|Long|Math|List|ArrayList)\\.(\\w+)").matcher(code);
        List<String> listed = List.of("System.arraycopy", "Math.max", "Math.min", "Math.abs", "Math.floorMod");
        while (library.find()) {
            Due.holds(library.group() + " is listed", listed.contains(library.group()));
        }
        methodsAreShort(text);
    }

    private static void methodsAreShort(String text) {
        String[] lines = text.split("\n");
        for (int i = 0; i < lines.length; i++) {
            boolean head = lines[i].matches(" {4}(?: {4})?(?:[\\w\\[\\]]+ )+\\w+\\(.*\\) \\{");
            if (head) {
                String end = lines[i].replaceAll("\\S.*", "") + "}";
                int j = i;
                while (j < lines.length && !lines[j].equals(end)) {
                    j++;
                }
                Due.holds(lines[i].trim() + " has some sixty lines at most", j - i <= 60);
            }
        }
    }
}
