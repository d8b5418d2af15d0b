import java.io.IOException;
import java.nio.file.Files;
import java.nio.file.Path;
import java.util.LinkedHashSet;
import java.util.List;
import java.util.NoSuchElementException;
import java.util.Set;
import java.util.function.LongSupplier;

/** Counts and prints the answers that are not as due. */
final class Check {
    /** Stands for a NoSuchElementException among answers. */
    static final long THROWS = Long.MIN_VALUE;

    private static final Path DOCUMENT = Path.of("../shared/DOC.md");

    private int asked = 0;
    private int wrong = 0;
    private String by = "";
    private final Set<String> sentences = new LinkedHashSet<>();

    /** What is looked at next is due by these sentences of the document. */
    void says(String... quoted) {
        by = ", by '" + String.join("' or '", quoted) + "'";
        sentences.addAll(List.of(quoted));
    }

    void due(String call, long got, long want) {
        asked++;
        if (got != want) {
            wrong++;
            if (wrong <= 50) {
                System.out.println(call + " answered " + shown(got) + ", due is " + shown(want) + by);
            }
        }
    }

    void due(String call, boolean got, boolean want) {
        due(call, got ? 1 : 0, want ? 1 : 0);
    }

    void dueThrow(String call, LongSupplier supplier) {
        due(call, answer(supplier), THROWS);
    }

    boolean hasWrong() {
        return wrong > 0;
    }

    /** A document that changed is told of and is no fault of the class's. */
    private void lookUpSentences() {
        try {
            String document = Files.exists(DOCUMENT) ? Files.readString(DOCUMENT).replaceAll("\\s+", " ") : null;
            for (String quoted : sentences) {
                if (document != null && !document.contains(quoted)) {
                    System.out.println("the document has no '" + quoted + "'");
                }
            }
        } catch (IOException e) {
            System.out.println("the document could not be read: " + e);
        }
    }

    void finish() {
        lookUpSentences();
        System.out.println(asked + " answers looked at, " + wrong + " not as due");
        if (wrong != 0) {
            System.exit(1);
        }
    }

    /** The answer of a call, a NoSuchElementException as THROWS; what else it throws goes on. */
    static long answer(LongSupplier supplier) {
        try {
            return supplier.getAsLong();
        } catch (NoSuchElementException e) {
            return THROWS;
        }
    }

    private static String shown(long answer) {
        return answer == THROWS ? "throws.NoSuchElementException" : Long.toString(answer);
    }

    /** Puts a text on an empty tape, of which a feed has room for 20 bytes more than 920. */
    static void tape(ParlourLeaves x, String text) {
        x.end(0);
        for (int k = 0; k < text.length(); k += 20) {
            x.feed(number(text, k), number(text, k + 4), number(text, k + 8), number(text, k + 12), number(text, k + 16));
        }
        x.end(text.length());
    }

    static int number(String text, int from) {
        int number = 0;
        for (int k = from; k < from + 4; k++) {
            number = number << 8 | (k < text.length() ? text.charAt(k) & 255 : 0);
        }
        return number;
    }
}
