import java.lang.reflect.Method;
import java.util.List;
import java.util.Set;
import java.util.TreeSet;

/** Each promise of the document has a test of its edges that is named by it. */
public final class EveryPromiseTest {
    private static final int PROMISES = 41;
    private static final List<Class<?>> EDGES = List.of(
        EdgesOfWalkersTest.class, EdgesOfHoursTest.class, EdgesOfThoughtsTest.class, EdgesOfTextsTest.class,
        EdgesOfSheetsTest.class, EdgesOfImagesTest.class);

    public static void main(String[] args) {
        Set<Integer> tested = new TreeSet<>();
        for (Class<?> tests : EDGES) {
            for (Method test : Edges.testsOf(tests)) {
                tested.add(Edges.promiseOf(test));
            }
        }
        for (int promise = 1; promise <= PROMISES; promise++) {
            Due.holds("promise " + promise + " has a test named by it", tested.contains(promise));
        }
        Due.is("promises beyond those of the document", tested.size(), PROMISES);
        Due.end("EveryPromiseTest");
    }
}
