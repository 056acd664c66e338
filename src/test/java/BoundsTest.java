import java.io.IOException;
import java.lang.reflect.InvocationTargetException;
import java.lang.reflect.Method;
import java.nio.file.Files;
import java.nio.file.Path;
import java.util.ArrayList;
import java.util.Comparator;
import java.util.List;
import java.util.Set;
import java.util.TreeSet;

/** Runs the tests of boundary cases, one for each sentence of the document that names one (see Kit.Says). */
final class BoundsTest {
    private static final Path DOC = Path.of("../shared/DOC.md");
    private static final int PROMISES = 54;
    private static final Class<?>[] PARTS = {TextBounds.class, LawBounds.class, StockBounds.class, YearBounds.class,
        ActBounds.class, WayBounds.class, ReckonBounds.class, BackBounds.class};

    public static void main(String[] args) throws IOException, IllegalAccessException {
        String doc = squeeze(Files.readString(DOC));
        Set<Integer> promises = new TreeSet<>();
        List<Method> tests = tests();
        for (Method test : tests) {
            Kit.Says says = test.getAnnotation(Kit.Says.class);
            Kit.part("promise " + says.promise() + ", " + test.getDeclaringClass().getName() + "." + test.getName()
                + ": \"" + says.words() + "\"");
            Kit.is("the document has these words", doc.contains(squeeze(says.words())), true);
            promises.add(says.promise());
            run(test);
        }
        Kit.part("all promises");
        for (int promise = 1; promise <= PROMISES; promise++) {
            Kit.is("promise " + promise + " has a test", promises.contains(promise), true);
        }
        System.out.println(tests.size() + " boundary cases");
        Kit.close();
    }

    private static List<Method> tests() {
        List<Method> tests = new ArrayList<>();
        for (Class<?> part : PARTS) {
            for (Method method : part.getDeclaredMethods()) {
                if (method.isAnnotationPresent(Kit.Says.class)) {
                    tests.add(method);
                }
            }
        }
        tests.sort(Comparator.comparing((Method test) -> test.getAnnotation(Kit.Says.class).promise())
            .thenComparing(Method::getName));
        return tests;
    }

    private static void run(Method test) throws IllegalAccessException {
        test.setAccessible(true);
        try {
            test.invoke(null);
        } catch (InvocationTargetException e) {
            Kit.is("the test", String.valueOf(e.getCause()), "no exception");
        }
    }

    private static String squeeze(String text) {
        return text.replaceAll("\\s+", " ");
    }
}
