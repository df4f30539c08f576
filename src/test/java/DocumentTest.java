import java.io.IOException;
import java.nio.file.DirectoryStream;
import java.nio.file.Files;
import java.nio.file.Path;
import java.util.ArrayList;
import java.util.List;
import java.util.regex.Matcher;
import java.util.regex.Pattern;

/**
 * Holds the words that the tests of edges say they are for against the document: each stands there, and of
 * the Terms and the promises nothing is left for which there is no test.
 */
public final class DocumentTest {
    private static final Pattern SAYS = Pattern.compile("says\\(\\s*((?:\"[^\"]*\"[\\s+]*)+)\\)");
    private static final Pattern TEXT = Pattern.compile("\"([^\"]*)\"");
    private static final Pattern LETTERS = Pattern.compile("[A-Za-z0-9]");

    public static void main(String[] args) throws IOException {
        String document = words(Files.readString(Path.of("../shared/DOC.md")));
        boolean[] told = new boolean[document.length()];
        List<String> quotes = quotes();
        for (String quote : quotes) {
            int at = document.indexOf(quote);
            if (at < 0) {
                Shop.due("words that the document does not have: " + quote, 0, 1);
            }
            for (; at >= 0; at = document.indexOf(quote, at + 1)) {
                for (int k = at; k < at + quote.length(); k++) {
                    told[k] = true;
                }
            }
        }
        lookForUntold(document, told);
        System.out.println(quotes.size() + " sentences have tests of their own");
        Shop.finish("DocumentTest");
    }

    private static void lookForUntold(String document, boolean[] told) {
        int k = 0;
        while (k < told.length) {
            int from = k;
            while (k < told.length && !told[k]) {
                k++;
            }
            String untold = document.substring(from, k);
            if (LETTERS.matcher(untold).find()) {
                Shop.due("words without a test: " + untold, 0, 1);
            }
            k++;
        }
    }

    /** What the document says of an object's calls, the Terms and the promises, without headings and heads of methods. */
    private static String words(String document) {
        StringBuilder text = new StringBuilder();
        boolean isTold = false;
        for (String line : document.split("\n")) {
            if (line.startsWith("## ")) {
                isTold = line.startsWith("## Terms") || line.startsWith("## Promise");
            } else if (line.startsWith("An object is used") || isTold && !line.startsWith("```")) {
                String rest = line.replaceFirst("^==== [0-9]\\. ", "");
                text.append(rest.replaceFirst("^(The constants: )?`[^`]*`: ", "")).append(' ');
            }
        }
        return text.toString().replaceAll("\\s+", " ");
    }

    private static List<String> quotes() throws IOException {
        List<String> quotes = new ArrayList<>();
        try (DirectoryStream<Path> files = Files.newDirectoryStream(Path.of("src/test/java"), "Edges*Test.java")) {
            for (Path file : files) {
                Matcher says = SAYS.matcher(Files.readString(file));
                while (says.find()) {
                    StringBuilder quote = new StringBuilder();
                    Matcher text = TEXT.matcher(says.group(1));
                    while (text.find()) {
                        quote.append(text.group(1));
                    }
                    quotes.add(quote.toString());
                }
            }
        }
        return quotes;
    }
}
