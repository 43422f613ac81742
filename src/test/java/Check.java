import java.io.IOException;
import java.nio.file.Files;
import java.nio.file.Path;
import java.util.function.Function;
import java.util.function.Supplier;
import java.util.function.ToIntFunction;

/** Counts the answers that are not as due, and ends a test with them. */
final class Check {
    private static final Path DOCUMENT = Path.of("../shared/DOC.md");

    private int wrong = 0;
    private int seen = 0;
    private String sentence = "";
    private String document;

    /** The words of the document that the checks from now on are about; they must stand there. */
    void said(String words) {
        if (document == null) {
            document = read();
        }
        sentence = "";
        holds("the document says: " + words, document.contains(words));
        sentence = "\"" + words + "\": ";
    }

    private static String read() {
        try {
            return Files.readString(DOCUMENT).replaceAll("\\s+", " ");
        } catch (IOException e) {
            throw new IllegalStateException("tests are run from the root of the project, beside " + DOCUMENT, e);
        }
    }

    void due(String what, long got, long want) {
        seen++;
        if (got != want) {
            wrong++;
            System.out.println(sentence + what + " answered " + got + ", due is " + want);
        }
    }

    void holds(String what, boolean condition) {
        seen++;
        if (!condition) {
            wrong++;
            System.out.println(sentence + "does not hold: " + what);
        }
    }

    void same(String what, String got, String want) {
        seen++;
        if (!got.equals(want)) {
            wrong++;
            System.out.println(sentence + what + " shows\n  " + got + "\ndue is\n  " + want);
        }
    }

    /** The call is refused with this code, and no later call shows that it was made. */
    void refused(String what, Supplier<MessageMachine> made, ToIntFunction<MessageMachine> call, int code) {
        unseen(what, made, call, code);
    }

    /** The call answers this, and no later call shows that it was made. */
    void unseen(String what, Supplier<MessageMachine> made, ToIntFunction<MessageMachine> call, int answer) {
        for (Function<MessageMachine, String> look : Looks.ALL) {
            MessageMachine m = made.get();
            due(what, call.applyAsInt(m), answer);
            same("after " + what + " a look at the object", look.apply(m), look.apply(made.get()));
        }
    }

    void end() {
        System.out.println(seen + " answers, " + wrong + " not as due");
        if (wrong != 0) {
            System.exit(1);
        }
    }
}
