import java.io.IOException;
import java.nio.file.Files;
import java.nio.file.Path;
import java.util.ArrayList;
import java.util.LinkedHashMap;
import java.util.List;
import java.util.Map;

/**
 * The document, sentence by sentence: a test is held under the sentence that it is of, quoted as it stands there.
 * At the end each word of the Terms and of the promises must have stood in a sentence with a test of its own.
 */
final class Doc {
    private static final Map<String, Section> SECTIONS = new LinkedHashMap<>();
    private static Section now;
    private static int sentences;

    private Doc() {
    }

    private static final class Section {
        final String text;
        final boolean[] tested;

        Section(String text) {
            this.text = text;
            tested = new boolean[text.length()];
        }
    }

    private static String plain(String s) {
        return s.replace("```text", " ").replace("`", "").replaceAll("\\s+", " ").trim();
    }

    /** Where the document is not at hand, the tests are run all the same, and their quotes are not looked up. */
    static void open(Path file) throws IOException {
        if (!Files.exists(file)) {
            System.out.println("no document at " + file + ": its words are not looked at");
            return;
        }
        String doc = plain(Files.readString(file));
        List<String> heads = new ArrayList<>(List.of("==== 1", "==== 2", "==== 3", "Answers:", "The constants:", "Ahead of the calls piece"));
        for (int i = 1; i <= 39; i++) {
            heads.add("## Promise " + i + ":");
        }
        heads.add("## Not promised");
        int from = doc.indexOf("## Terms");
        for (int i = 0; i + 1 < heads.size(); i++) {
            int begin = doc.indexOf(heads.get(i), from);
            int end = doc.indexOf(heads.get(i + 1), begin);
            int head = heads.get(i).length();
            String text = doc.substring(begin + head, end).trim();
            // A promise's head is its name and its call: those are RulesTest's.
            SECTIONS.put(heads.get(i), new Section(heads.get(i).startsWith("##") ? text.substring(text.indexOf("): ") + 3) : text));
            from = end;
        }
        // What the interface's comments say is RulesTest's, too.
        SECTIONS.remove("Ahead of the calls piece");
    }

    static void terms(String head) {
        now = SECTIONS.get(head);
    }

    static void promise(int number) {
        terms("## Promise " + number + ":");
    }

    /** The test of one sentence, or of a part of one: it looks at one answer at least. */
    static void says(String quote, Runnable test) {
        Due.under(quote);
        if (now != null) {
            lookUp(quote);
        }
        int before = Due.looked();
        test.run();
        Due.due("it has a test", Due.looked() > before ? 1 : 0, 1);
        Due.under("");
        sentences++;
    }

    private static void lookUp(String quote) {
        int at = now.text.indexOf(quote);
        Due.due("it stands in the document", at < 0 ? 0 : 1, 1);
        for (int i = Math.max(at, 0); at >= 0 && i < at + quote.length(); i++) {
            now.tested[i] = true;
        }
    }

    /** Each word that stood in no sentence is told, and is not as due. */
    static void close() {
        for (Map.Entry<String, Section> e : SECTIONS.entrySet()) {
            StringBuilder left = new StringBuilder();
            Section s = e.getValue();
            for (int i = 0; i < s.text.length(); i++) {
                left.append(s.tested[i] ? ' ' : s.text.charAt(i));
            }
            String words = left.toString().replaceAll("[\\s.,;:()]+", " ").trim();
            Due.due(e.getKey() + " without a test: '" + words + "'", words.length(), 0);
        }
        System.out.println(sentences + " sentences of the document, each with a test of its own");
    }
}
