import java.io.IOException;
import java.nio.file.Files;
import java.nio.file.Path;
import java.util.ArrayList;
import java.util.List;
import java.util.regex.Matcher;
import java.util.regex.Pattern;

/**
 * The sentences that HalfLaddersBoundaries and HalfLaddersDocument test stand in the document word by word; each promise
 * has one, and from the document's first line to "Not promised" no sentence is without a test.
 */
public final class HalfLaddersSentences {
    private static final String[] TESTS = {"HalfLaddersBoundaries", "HalfLaddersDocument"};
    /** Headings and what else says nothing that could be broken; HalfLaddersDocument reads the face by itself. */
    private static final String[] NOTHING_TO_TEST = {"^# HalfLadders ## What it is Half a ladder each:", "```java .*? ```",
        "; what later calls answer is free\\.", "## Terms ", "```text ", "======== \\d ", "PEOPLE 0 \\.\\. ", " has ",
        "The constants: `NO = -1000000`:", "Ahead of the calls `[a-z`, ]*` ", "---- [a-z ]*[.,] ",
        "## Promise \\d+: [A-Za-z ]* `[^`]*`:( Of a (half|TREE):)?", "## Not promised .*$"};
    private static int wrong = 0;

    private static void holds(String what, boolean does) {
        if (!does) {
            wrong++;
            System.out.println("does not hold: " + what);
        }
    }

    public static void main(String[] args) throws IOException {
        String document = Files.readString(Path.of("../shared/DOC.md")).replaceAll("\\s+", " ");
        List<String> sentences = new ArrayList<>();
        for (String test : TESTS) {
            sentences.addAll(sentencesOf(Files.readString(Path.of("src/test/java/" + test + ".java"))));
        }
        for (String sentence : sentences) {
            holds("the document says: " + sentence, document.contains(sentence));
        }
        String[] promises = document.split("## Promise \\d+: |## Not promised");
        holds("there are 25 promises", promises.length == 27);
        for (int n = 1; n <= 25 && n < promises.length; n++) {
            holds("promise " + n + " has a sentence that is tested", hasOneOf(promises[n], sentences));
        }
        noneIsWithoutATest(document, sentences);
        System.out.println(wrong == 0 ? sentences.size() + " sentences are the document's" : wrong + " are not as they should be");
        if (wrong != 0) {
            System.exit(1);
        }
    }

    private static List<String> sentencesOf(String source) {
        List<String> all = new ArrayList<>();
        Matcher quoted = Pattern.compile("\\bsentence\\(\"((?:[^\"\\\\]|\\\\.)*)\"\\);").matcher(source);
        while (quoted.find()) {
            all.add(quoted.group(1).replace("\\\"", "\""));
        }
        return all;
    }

    private static boolean hasOneOf(String promise, List<String> sentences) {
        for (String sentence : sentences) {
            if (promise.contains(sentence)) {
                return true;
            }
        }
        return false;
    }

    /** What is tested, and what needs no test, is struck out; what is left then may be signs between sentences alone. */
    private static void noneIsWithoutATest(String document, List<String> sentences) {
        StringBuilder left = new StringBuilder(document);
        for (String sentence : sentences) {
            strikeOut(document, Pattern.compile(Pattern.quote(sentence)), left);
        }
        for (String nothing : NOTHING_TO_TEST) {
            strikeOut(document, Pattern.compile(nothing), left);
        }
        Matcher words = Pattern.compile("[^\\u0000]*[A-Za-z0-9][^\\u0000]*").matcher(left);
        while (words.find()) {
            holds("this has a test: " + words.group(), false);
        }
    }

    private static void strikeOut(String document, Pattern words, StringBuilder left) {
        Matcher found = words.matcher(document);
        while (found.find()) {
            left.replace(found.start(), found.end(), "\u0000".repeat(found.end() - found.start()));
        }
    }
}
