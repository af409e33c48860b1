import java.nio.file.Files;
import java.nio.file.Path;

/**
 * Each sentence of the document has a test of its own, under its own words: the case that it names, those just
 * inside and those just outside. What of the document no test quotes is a wrong answer too.
 */
public final class EdgeTest extends Edge {
    private static final int PROMISES = 46;

    public static void main(String[] args) throws Exception {
        EdgesOfWorld.all();
        EdgesOfTexts.all();
        EdgesOfSums.all();
        EdgesOfSaid.all();
        EdgesOfSchool.all();
        EdgesOfTrees.all();
        EdgesOfHearsay.all();
        Path document = Path.of("../shared/DOC.md");
        if (Files.exists(document)) {
            cover(Files.readString(document));
        } else {
            System.out.println("no document beside the project: what is quoted was not compared with it");
        }
        System.out.println(SENTENCES.size() + " sentences");
        C.finish();
    }

    private static void cover(String document) {
        String[] parts = new String[PROMISES + 1];
        int at = document.indexOf("## Terms");
        for (int i = 0; i <= PROMISES; i++) {
            int end = document.indexOf(i < PROMISES ? "## Promise " + (i + 1) + ":" : "## Not promised");
            String part = document.substring(at, end);
            parts[i] = flat(i == 0 ? part : part.substring(part.indexOf("`: ") + 3));
            at = end;
        }
        boolean[][] quoted = new boolean[parts.length][];
        for (int i = 0; i < parts.length; i++) {
            quoted[i] = new boolean[parts[i].length()];
        }
        for (Sentence s : SENTENCES) {
            C.due(s.promise, "calls for \"" + s.words + "\"", s.calls > 0, true);
            quote(parts[s.promise], quoted[s.promise], s);
        }
        for (int i = 0; i < parts.length; i++) {
            left(i, parts[i], quoted[i]);
        }
    }

    private static String flat(String text) {
        return text.replace("## Terms", "").replaceAll("```(text)?", "").replaceAll("\\s+", " ");
    }

    private static void quote(String part, boolean[] quoted, Sentence s) {
        int at = part.indexOf(s.words);
        C.due(s.promise, "the document says \"" + s.words + "\"", at >= 0, true);
        for (int i = Math.max(at, 0); at >= 0 && i < at + s.words.length(); i++) {
            quoted[i] = true;
        }
    }

    private static void left(int promise, String part, boolean[] quoted) {
        StringBuilder left = new StringBuilder();
        for (int i = 0; i <= part.length(); i++) {
            if (i < part.length() && !quoted[i]) {
                left.append(part.charAt(i));
            } else if (left.length() > 0) {
                String words = left.toString().replaceAll("[^A-Za-z0-9]+", " ").trim();
                boolean nothing = words.isEmpty() || words.equals("or") || words.equals("of");
                C.due(promise, "no test quotes \"" + left + "\"", nothing, true);
                left.setLength(0);
            }
        }
    }
}
