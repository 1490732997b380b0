import java.util.ArrayList;
import java.util.List;

/** Counts the answers that are not as due, and ends a test. An answer belongs to the sentence that was named last. */
final class Due {
    /** A sentence of the document (or a part of one): the heading that it stands under, and its words. */
    record Sentence(String heading, String words) { }

    private final List<Sentence> sentences = new ArrayList<>();
    private String about = "";
    private int asked;
    private int askedBefore;
    private int wrong;

    /** From here on the answers are those that this sentence asks for. */
    void sentence(String heading, String words) {
        endSentence();
        sentences.add(new Sentence(heading, words));
        about = "[" + heading + ": " + words + "] ";
        askedBefore = asked;
    }

    private void endSentence() {
        if (!about.isEmpty() && asked == askedBefore) {
            notAsDue("nothing was asked");
        }
        about = "";
    }

    void is(String call, long got, long want) {
        asked++;
        if (got != want) {
            notAsDue(call + " answered " + got + ", due is " + want);
        }
    }

    void same(String what, String got, String want) {
        asked++;
        if (!got.equals(want)) {
            notAsDue(what + " is " + got + ", due is " + want);
        }
    }

    private void notAsDue(String line) {
        wrong++;
        System.out.println(about + line);
    }

    List<Sentence> sentences() {
        endSentence();
        return sentences;
    }

    void end(String test) {
        endSentence();
        System.out.println(test + ": " + asked + " answers, " + wrong + " not as due");
        if (wrong != 0 || asked == 0) {
            System.exit(1);
        }
    }
}
