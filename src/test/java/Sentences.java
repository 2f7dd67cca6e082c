import java.io.IOException;
import java.nio.file.Files;
import java.nio.file.Path;

/** A check that tells by which sentence of the document an answer is due, and knows what was not told. */
final class Sentences extends Check {
    private static final Path DOCUMENT = Path.of("../shared/DOC.md");

    private final String document;
    private final boolean[] told;
    private String sentence = "";

    Sentences() throws IOException {
        document = sentencesOf(Files.readString(DOCUMENT));
        told = new boolean[document.length()];
    }

    /** All that the document says, without headings, the face and what is not promised. */
    private static String sentencesOf(String whole) {
        return whole.substring(0, whole.indexOf("## Not promised"))
                .replaceAll("(?s)```.*?```", "")
                .replaceAll("(?m)^#.*$", "")
                .replaceAll("(?m)^`[^`]*`: ", "")
                .replaceAll("\\s+", " ").trim();
    }

    /** From here on answers are due by these words, which stand in the document and were not told yet. */
    void by(String words) {
        sentence = words;
        int at = document.indexOf(words);
        while (at >= 0 && told[at]) {
            at = document.indexOf(words, at + 1);
        }
        super.due("whether the document says: " + words, at >= 0, true);
        for (int i = at; at >= 0 && i < at + words.length(); i++) {
            told[i] = true;
        }
    }

    @Override
    void due(String what, Object got, Object want) {
        super.due(what + " (\"" + sentence + "\")", got, want);
    }

    /** To be asked when all tests ran: there is no sentence without one. */
    void allAreTold() {
        super.due("what the document says and no test told", untold(), "");
    }

    private String untold() {
        StringBuilder rest = new StringBuilder();
        for (int i = 0; i < told.length; i++) {
            rest.append(told[i] ? "" : document.charAt(i));
        }
        return rest.toString().trim();
    }
}
