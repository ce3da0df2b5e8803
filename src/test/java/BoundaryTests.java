import java.nio.file.Path;
import java.util.List;

/**
 * The sentences of the document, each with tests of its own on both sides of the boundaries that
 * it names; the tests stand in src/test/boundaries, and tell their sentence in @Sentence.
 */
public final class BoundaryTests {
    public static void main(String[] args) {
        List<Class<?>> parts = List.of(FormSentences.class, CodeSentences.class,
                CheckSentences.class, LodgeSentences.class, PaperSentences.class,
                PackSentences.class, ReadSentences.class, CountSentences.class);
        for (Class<?> part : parts) {
            Trial.run(part);
        }
        Trial.compareWith(Path.of("..", "shared", "DOC.md"));
        if (Trial.end() != 0) {
            System.exit(1);
        }
    }
}
