import java.io.IOException;
import java.nio.file.Files;
import java.nio.file.Path;
import java.util.BitSet;
import java.util.Map;
import java.util.TreeMap;
import java.util.regex.Matcher;
import java.util.regex.Pattern;

/** Sentences of ../shared/DOC.md, each with a test of its own; number 0 is the Terms, 1 to 48 are the promises. */
final class Edge {
    private static final Path DOCUMENT = Path.of("../shared/DOC.md");
    private static final Map<Integer, String> SECTIONS = new TreeMap<>();
    private static final Map<Integer, BitSet> TESTED = new TreeMap<>();
    private static int sentences = 0;

    private Edge() {
    }

    /** The document's words, without the numbers of the Terms and without the methods' own lines. */
    static void readDocument() throws IOException {
        String doc = Files.readString(DOCUMENT).replace("```text", "").replace("```", "");
        doc = doc.replaceAll("(?m)^Ahead of the calls .*$", "").replaceAll("\\s+", " ");
        String terms = doc.substring(doc.indexOf("## Terms"), doc.indexOf("## Promise 1:"));
        put(0, terms.replaceFirst("## Terms 1\\. ", "").replaceFirst(" 2\\. ROW:", " ROW:"));
        Matcher m = Pattern.compile("## Promise (\\d+): .*?`[^`]*`: (.*?)(?=## )").matcher(doc);
        while (m.find()) {
            put(Integer.parseInt(m.group(1)), m.group(2));
        }
        Due.is("sections of the document", SECTIONS.size(), 49);
    }

    private static void put(int section, String text) {
        SECTIONS.put(section, text.trim());
        TESTED.put(section, new BitSet());
    }

    static void test(int section, String sentence, Runnable test) {
        String text = SECTIONS.getOrDefault(section, "");
        int at = text.indexOf(sentence);
        Due.is("\"" + sentence + "\" stands in section " + section, at >= 0, true);
        for (; at >= 0; at = text.indexOf(sentence, at + 1)) {
            TESTED.get(section).set(at, at + sentence.length());
        }
        sentences++;
        Due.within((section == 0 ? "Terms" : "promise " + section) + ", \"" + sentence + "\": ", test);
    }

    /** Each word and number of the Terms and of the promises stands in a sentence that was tested. */
    static void allIsTested() {
        for (Map.Entry<Integer, String> one : SECTIONS.entrySet()) {
            StringBuilder left = new StringBuilder(one.getValue());
            BitSet tested = TESTED.get(one.getKey());
            for (int i = 0; i < left.length(); i++) {
                if (tested.get(i)) {
                    left.setCharAt(i, ' ');
                }
            }
            String words = left.toString().replaceAll("[ .,;:()]+", " ").trim();
            if (!words.isEmpty()) {
                Due.is("section " + one.getKey() + ": tests of \"" + words + "\"", 0, 1);
            }
        }
        System.out.println(sentences + " tests of sentences");
    }
}
