import java.nio.charset.StandardCharsets;
import java.nio.file.Files;
import java.nio.file.Path;
import java.util.ArrayList;
import java.util.List;
import java.util.TreeMap;

/**
 * Asks what each sentence of the document asks for, sentence by sentence; and looks into the document whether each of its
 * sentences is asked for. It is run from the project's folder.
 */
public final class SentencesTest {
    private static final Path DOCUMENT = Path.of("../shared/DOC.md");
    private static final List<String> WITHOUT_PROMISE = List.of("", "GrowingBook", "The public face", "Not promised");
    /** Parts that promise nothing by themselves: what stands behind them does, or other parts say it. */
    private static final String NO_PROMISE = "CONVENTIONS\\.|A message that is written as codes of phrases: .*"
        + "|what later calls answer is free\\.|Ahead of the calls .*|(`.*`: )?Returns (a|the) number.*|- `what`:";

    public static void main(String[] arguments) throws Exception {
        Due due = new Due();
        ConventionSentences.ask(due);
        SettingSentences.ask(due);
        MessageSentences.ask(due);
        SpoilSentences.ask(due);
        WritingSentences.ask(due);
        CodeSentences.ask(due);
        ReadingSentences.ask(due);
        TextSentences.ask(due);
        WhatIfSentences.ask(due);
        StateSentences.ask(due);
        List<Due.Sentence> sentences = new ArrayList<>(due.sentences());
        due.sentence("DOC.md", "each sentence is asked for");
        everySentenceIsAsked(due, sentences);
        System.out.println("SentencesTest: " + sentences.size() + " sentences");
        due.end("SentencesTest");
    }

    private static void everySentenceIsAsked(Due due, List<Due.Sentence> sentences) throws Exception {
        TreeMap<String, String> document = sections(Files.readString(DOCUMENT, StandardCharsets.UTF_8));
        for (Due.Sentence sentence : sentences) {
            boolean stands = document.getOrDefault(sentence.heading(), "").contains(sentence.words());
            due.is("[" + sentence.heading() + ": " + sentence.words() + "] stands in the document", stands ? 1 : 0, 1);
        }
        for (String heading : document.keySet()) {
            if (!WITHOUT_PROMISE.contains(heading)) {
                everyPartIsAsked(due, heading, document.get(heading), sentences);
            }
        }
    }

    /** A part ends behind a full stop or a semicolon; it is asked for if some words of it are those of a test. */
    private static void everyPartIsAsked(Due due, String heading, String text, List<Due.Sentence> sentences) {
        int from = 0;
        for (String part : text.split("(?<=[.;])(?= )|(?= - `)|(?<=`:)(?= \\d)")) {
            int to = from + part.length();
            boolean asked = part.trim().matches(NO_PROMISE);
            for (Due.Sentence sentence : sentences) {
                int begin = sentence.heading().equals(heading) ? text.indexOf(sentence.words()) : -1;
                asked |= begin >= 0 && begin < to && begin + sentence.words().length() > from;
            }
            due.is("a test for [" + heading + ": " + part.trim() + "]", asked ? 1 : 0, 1);
            from = to;
        }
    }

    /** The text under each heading (up to its first colon), in one line. */
    private static TreeMap<String, String> sections(String document) {
        TreeMap<String, String> found = new TreeMap<>();
        String heading = "";
        StringBuilder text = new StringBuilder();
        for (String line : (document + "\n#").split("\n")) {
            if (line.startsWith("#")) {
                found.put(heading, text.toString().replaceAll("\\s+", " ").trim());
                heading = line.replaceAll("^#+ ?|:.*", "");
                text.setLength(0);
            } else {
                text.append(line).append(' ');
            }
        }
        return found;
    }
}
