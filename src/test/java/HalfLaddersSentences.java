import java.io.IOException;
import java.nio.file.Files;
import java.nio.file.Path;
import java.util.ArrayList;
import java.util.List;
import java.util.regex.Matcher;
import java.util.regex.Pattern;

/** The sentences that HalfLaddersBoundaries tests stand in the document, and no promise is without one. */
public final class HalfLaddersSentences {
    private static int wrong = 0;

    private static void holds(String what, boolean does) {
        if (!does) {
            wrong++;
            System.out.println("does not hold: " + what);
        }
    }

    public static void main(String[] args) throws IOException {
        String document = Files.readString(Path.of("../shared/DOC.md")).replaceAll("\\s+", " ");
        List<String> sentences = sentencesOf(Files.readString(Path.of("src/test/java/HalfLaddersBoundaries.java")));
        for (String sentence : sentences) {
            holds("the document says: " + sentence, document.contains(sentence));
        }
        String[] promises = document.split("## Promise \\d+: |## Not promised");
        holds("there are 25 promises", promises.length == 27);
        for (int n = 1; n <= 25 && n < promises.length; n++) {
            holds("promise " + n + " has a sentence that is tested", hasOneOf(promises[n], sentences));
        }
        System.out.println(wrong == 0 ? sentences.size() + " sentences are the document's" : wrong + " are not as they should be");
        if (wrong != 0) {
            System.exit(1);
        }
    }

    private static List<String> sentencesOf(String source) {
        List<String> all = new ArrayList<>();
        Matcher quoted = Pattern.compile("\\bsentence\\(\"((?:[^\"\\\\]|\\\\.)*)\"\\);").matcher(source);
        while (quoted.find()) {
            all.add(quoted.group(1).replace("\\\"", "\""));
        }
        return all;
    }

    private static boolean hasOneOf(String promise, List<String> sentences) {
        for (String sentence : sentences) {
            if (promise.contains(sentence)) {
                return true;
            }
        }
        return false;
    }
}
