import java.io.IOException;
import java.nio.file.Files;
import java.nio.file.Path;
import java.util.BitSet;
import java.util.List;

/** The words of ../shared/DOC.md that promise something, without its headings and signatures. */
final class Document {
    private static final Path PLACE = Path.of("../shared/DOC.md");

    private Document() {
    }

    /** Each quote stands in the document, once, and no promise or term of it is without a quote. */
    static void isQuotedWhole(List<String> quotes) {
        if (!Files.exists(PLACE)) {
            System.out.println("the quotes are not compared: there is no " + PLACE);
            return;
        }
        String words = words();
        BitSet quoted = new BitSet();
        for (String quote : quotes) {
            int at = words.indexOf(quote);
            Check.yes("it stands in the document: " + quote, at >= 0);
            Check.due("it stands there once: " + quote, words.lastIndexOf(quote), at);
            quoted.set(Math.max(at, 0), Math.max(at, 0) + quote.length());
        }
        for (int from = quoted.nextClearBit(0); from < words.length(); from = quoted.nextClearBit(from)) {
            int next = quoted.nextSetBit(from);
            int end = next < 0 ? words.length() : next;
            String left = words.substring(from, end);
            Check.no("not quoted: " + left, left.matches(".*[A-Za-z0-9].*"));
            from = end;
        }
    }

    private static String words() {
        StringBuilder words = new StringBuilder();
        boolean promises = false;
        for (String line : lines()) {
            promises = line.startsWith("## ") ? line.matches("## (Terms|Promise .*)") : promises;
            if ((promises || line.startsWith("An object")) && !line.startsWith("#") && !line.startsWith("```")) {
                words.append(line.replaceFirst("^==== \\d\\.", "").replaceFirst("^`[^`]*`: ", "")).append(' ');
            }
        }
        return words.toString().replaceAll("\\s+", " ");
    }

    private static List<String> lines() {
        try {
            return Files.readAllLines(PLACE);
        } catch (IOException e) {
            throw new IllegalStateException(e);
        }
    }
}
