import java.io.IOException;
import java.nio.file.Files;
import java.nio.file.Path;
import java.util.ArrayList;
import java.util.List;

/**
 * Tests that each stand for words of the document: the words must be there, and no words of its
 * terms and promises may be without a test or without a reason why they have none.
 */
final class Edges {
    private static final String FIRST = "An object is used for at most 512 calls";
    private static final String BEHIND_LAST = "## Not promised";

    // Where the tests lie without the document they are run all the same, only its words are not compared.
    private final boolean isHere;
    private final String text;
    private final boolean[] spokenFor;
    private int searchFrom = 0;
    private int tests = 0;

    Edges(Path document) throws IOException {
        isHere = Files.isReadable(document);
        text = isHere ? oneLine(Files.readString(document).replaceAll("```\\w*", "")) : "";
        spokenFor = new boolean[text.length()];
        // The face as Java is what FaceTest looks at.
        speakFor(text.indexOf("## The public face"), text.indexOf("## Terms"));
    }

    private static String oneLine(String words) {
        return words.replaceAll("\\s+", " ").trim();
    }

    /** From here on words are looked for behind the first place where these stand. */
    void chapter(String heading) {
        searchFrom = Math.max(0, text.indexOf(heading));
        free(heading, "a heading");
    }

    void test(String words, Runnable answers) {
        take(words);
        tests++;
        Kit.about(words);
        int before = Kit.asked();
        answers.run();
        Kit.due("the test asks something", Kit.asked() > before);
        Kit.about("");
    }

    /** Words that no answer hangs on, with the reason. */
    void free(String words, String why) {
        take(words);
        Kit.due("a reason for: " + words, !why.isEmpty());
    }

    private void take(String words) {
        if (!isHere) {
            return;
        }
        String asked = oneLine(words);
        int at = text.indexOf(asked, searchFrom);
        Kit.due("the document says: " + words, at >= 0);
        if (at >= 0) {
            speakFor(at, at + asked.length());
        }
    }

    private void speakFor(int from, int to) {
        for (int i = Math.max(0, from); i < to; i++) {
            spokenFor[i] = true;
        }
    }

    void end() {
        List<String> left = new ArrayList<>();
        StringBuilder some = new StringBuilder();
        int last = text.indexOf(BEHIND_LAST);
        for (int i = Math.max(0, text.indexOf(FIRST)); i <= last; i++) {
            if (i < last && !spokenFor[i]) {
                some.append(text.charAt(i));
            } else if (some.length() > 0) {
                left.add(some.toString());
                some.setLength(0);
            }
        }
        for (String words : left) {
            Kit.due("words without a test: \"" + words + "\"", !words.matches(".*[A-Za-z0-9].*"));
        }
        System.out.println(tests + " tests, each for words of the document"
                + (isHere ? "" : ", which is not here: its words were not compared"));
    }
}
