import java.io.IOException;
import java.nio.file.Files;
import java.nio.file.Path;

/** Compares answers with those that are due, sentence by sentence, and ends a test. */
final class Due {
    /** One call of the class; a test hands it over, so that what it throws can be seen. */
    interface Call {
        long answer();
    }

    private static final Path DOCUMENT = Path.of("..", "shared", "DOC.md");

    private final String document = document();
    private String sentence = "";
    private int sentences;
    private int askedBefore;
    private int wrong;
    private int asked;

    /**
     * What is asked from here on is due by this sentence of the document. It is looked up there, so
     * that no test outlives its sentence; and one of which nothing is asked is a fault.
     */
    void sentence(String quoted) {
        closeSentence();
        sentence = quoted;
        sentences++;
        askedBefore = asked;
        if (!document.isEmpty() && !document.contains(quoted)) {
            tell("the document has no such sentence");
        }
    }

    private void closeSentence() {
        if (sentences > 0 && asked == askedBefore) {
            tell("nothing was asked");
        }
    }

    private static String document() {
        try {
            return Files.isReadable(DOCUMENT)
                    ? Files.readString(DOCUMENT).replaceAll("\\s+", " ") : "";
        } catch (IOException unreadable) {
            return "";
        }
    }

    void is(String call, long got, long want) {
        asked++;
        if (got != want) {
            tell(call + " answered " + got + ", due is " + want);
        }
    }

    /** The exception must be of exactly this class: the machine's own ones are classes below it. */
    void refused(String call, Class<? extends RuntimeException> kind, Call made) {
        alike(call, outcome(made), kind.getName());
    }

    void alike(String call, String got, String want) {
        asked++;
        if (!got.equals(want)) {
            tell(call + " answered " + got + ", due is " + want);
        }
    }

    void noMethod(String call, Call made) {
        refused(call, IndexOutOfBoundsException.class, made);
    }

    void badArgument(String call, Call made) {
        refused(call, IllegalArgumentException.class, made);
    }

    /** The answer, or the class of what was thrown, as a text. */
    static String outcome(Call made) {
        try {
            return Long.toString(made.answer());
        } catch (RuntimeException thrown) {
            return thrown.getClass().getName();
        }
    }

    void tell(String fault) {
        wrong++;
        System.out.println((sentence.isEmpty() ? "" : "\"" + sentence + "\": ") + fault);
    }

    boolean isClean() {
        return wrong == 0;
    }

    void end() {
        closeSentence();
        System.out.println(sentences + " sentences, " + asked + " answers asked, " + wrong
                + " wrong");
        if (wrong != 0 || asked == 0) {
            System.exit(1);
        }
    }
}
