import java.lang.reflect.InvocationTargetException;
import java.lang.reflect.Method;
import java.nio.file.Files;
import java.nio.file.Path;
import java.util.ArrayList;
import java.util.Comparator;
import java.util.List;
import java.util.Set;
import java.util.TreeSet;

/** Runs a test for each sentence of the document that names a boundary; each is an Edge of the classes below. */
public final class EdgesTest {
    private static final Class<?>[] CLASSES = {TapeEdges.class, TextEdges.class, FaultEdges.class,
        FormulaEdges.class, NowEdges.class, StepEdges.class, AheadEdges.class, TrackEdges.class,
        ActEdges.class, ImageEdges.class};
    private static final Path DOCUMENT = Path.of("../shared/DOC.md");
    private static final int PROMISES = 33;

    public static void main(String[] args) throws Exception {
        String document = Files.readString(DOCUMENT).replaceAll("\\s+", " ");
        Set<Integer> promises = new TreeSet<>();
        for (Method test : tests()) {
            Edge edge = test.getAnnotation(Edge.class);
            promises.add(edge.promise());
            Check.about("promise " + edge.promise() + ", '" + edge.says() + "': ");
            Check.due("stands in the document", document.contains(edge.says()), true);
            run(test);
        }
        Check.about("");
        for (int k = 1; k <= PROMISES; k++) {
            Check.due("promise " + k + " has a test", promises.contains(k), true);
        }
        Check.finish();
    }

    private static List<Method> tests() {
        List<Method> tests = new ArrayList<>();
        for (Class<?> c : CLASSES) {
            for (Method m : c.getDeclaredMethods()) {
                if (m.isAnnotationPresent(Edge.class)) {
                    tests.add(m);
                }
            }
        }
        tests.sort(Comparator.comparing((Method m) -> m.getAnnotation(Edge.class).promise())
                .thenComparing(Method::getName));
        return tests;
    }

    private static void run(Method test) throws IllegalAccessException {
        try {
            test.invoke(null);
        } catch (InvocationTargetException e) {
            Check.due(test.getName() + ", which threw " + e.getCause() + ",", 1, 0);
        }
    }
}
