import java.io.IOException;
import java.lang.reflect.InvocationTargetException;
import java.lang.reflect.Method;
import java.nio.file.Path;
import java.util.ArrayList;
import java.util.Arrays;
import java.util.Comparator;
import java.util.List;

/**
 * Each sentence of the document that names a boundary case has a test of its own. The words that a test names
 * must stand in the document just so, and all words of the terms and promises must be named by a test.
 */
public final class EdgesTest {
    private static final Class<?>[] ALL = {
        EdgesOfPictureTerms.class, EdgesOfNumberTerms.class, EdgesOfMoveTerms.class, EdgesOfSearchTerms.class,
        EdgesOfRefusals.class, EdgesOfPictures.class, EdgesOfNumbers.class, EdgesOfMoves.class, EdgesOfSearch.class,
        EdgesOfBook.class,
    };

    private EdgesTest() {
    }

    private static List<Method> tests() {
        List<Method> found = new ArrayList<>();
        for (Class<?> one : ALL) {
            Method[] methods = one.getDeclaredMethods();
            Arrays.sort(methods, Comparator.comparing(Method::getName));
            for (Method method : methods) {
                if (method.isAnnotationPresent(Sentence.class)) {
                    found.add(method);
                }
            }
        }
        return found;
    }

    private static void run(Method test) {
        Sentence sentence = test.getAnnotation(Sentence.class);
        int before = Run.due.wrong();
        try {
            test.invoke(null);
        } catch (InvocationTargetException | IllegalAccessException thrown) {
            Run.due.holds("it threw " + thrown.getCause(), false);
        }
        if (Run.due.wrong() > before) {
            System.out.println("    so this does not hold: " + sentence.of() + ", \"" + sentence.says() + "\" ("
                    + test.getDeclaringClass().getSimpleName() + "." + test.getName() + ")");
        }
    }

    public static void main(String[] args) throws IOException {
        Document document = new Document(Path.of("../shared/DOC.md"));
        Run.due.is("parts of the document", document.size(), 1 + 5 + 52);
        List<Method> tests = tests();
        for (Method test : tests) {
            Sentence sentence = test.getAnnotation(Sentence.class);
            Run.due.holds(sentence.of() + " says, and once: " + sentence.says(),
                    document.name(sentence.of(), sentence.says()));
            run(test);
        }
        for (String words : document.unnamed()) {
            Run.due.holds("no test names these words of " + words, false);
        }
        System.out.println("EdgesTest: " + tests.size() + " sentences");
        Run.due.end("EdgesTest");
    }
}
