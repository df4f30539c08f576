import java.io.IOException;
import java.nio.file.Files;
import java.nio.file.Path;
import java.util.ArrayList;
import java.util.List;
import java.util.regex.Matcher;
import java.util.regex.Pattern;

/** The example of README.md: it stands there word by word, and answers what is said behind its calls. */
public final class ExampleTest {
    private static final Pattern ANSWERED = Pattern.compile("(.*;)\\s*// (-?[0-9]+|true|false)\\b.*");
    private static final Pattern BLOCK = Pattern.compile("```java\n(.*?)```", Pattern.DOTALL);
    private static final List<String> ANSWERS = new ArrayList<>();

    public static void main(String[] args) throws IOException {
        example();
        List<String> told = new ArrayList<>();
        String source = Files.readString(Path.of("src/test/java/ExampleTest.java"));
        for (String line : javaOf(Files.readString(Path.of("README.md")))) {
            Matcher answered = ANSWERED.matcher(line);
            String words = line.strip();
            if (answered.matches()) {
                told.add(answered.group(2));
                words = here(answered.group(1).strip());
            }
            Shop.due("stands in the example: " + words, source.contains(words) ? 1 : 0, 1);
        }
        Shop.due("how many answers README.md tells", told.size(), ANSWERS.size());
        for (int k = 0; k < told.size() && k < ANSWERS.size(); k++) {
            boolean same = told.get(k).equals(ANSWERS.get(k));
            Shop.due("README.md tells " + told.get(k) + ", and that it is " + ANSWERS.get(k), same ? 1 : 0, 1);
        }
        Shop.finish("ExampleTest");
    }

    /** How a line whose answer is told stands here: a call alone within put, where its answer is kept. */
    private static String here(String words) {
        return words.startsWith("int ") ? words : "put(" + words.replaceFirst(";$", "") + ");";
    }

    private static List<String> javaOf(String readme) {
        List<String> lines = new ArrayList<>();
        Matcher block = BLOCK.matcher(readme);
        while (block.find()) {
            lines.addAll(List.of(block.group(1).split("\n")));
        }
        Shop.due("README.md has lines of Java", lines.size() > 30 ? 1 : 0, 1);
        return lines;
    }

    private static void put(Object answer) {
        ANSWERS.add(answer.toString());
    }

    private static void example() {
        BurningSlips shop = new BurningSlips();
        tell(shop, "wall rate 3; bill area; take w once; take h once; let s once w * h; give s * rate;");
        put(shop.bills());
        put(shop.bill(0, 5));
        put(shop.begin(0, 2, 5, 0, 0));
        put(shop.machine(2));
        put(shop.run(1000));
        put(shop.given());

        tell(shop, "bill sq; take a once; let b once a * a; give b * b + 1;");
        put(shop.bills());
        put(shop.check(0, 0));
        put(shop.check(0, 2));
        put(shop.begin(0, 2, 0, 0, 0));
        put(shop.free(0, 2, 0, 0, 0));
        put(shop.needs(0, 0));
        put(shop.fewest(0));
        put(shop.cheapest(0, 9, 1));

        tell(shop, "bill b; give 7");
        int fault = shop.bills();
        int kind = fault & 15;
        put(kind);
        int place = fault >> 4;
        put(place);
        put(shop.count(1));
    }

    static void tell(BurningSlips shop, String text) {
        for (int k = 0; k < text.length(); k += 24) {
            shop.feed(eight(text, k), eight(text, k + 8), eight(text, k + 16));
        }
    }

    static long eight(String text, int from) {
        long bytes = 0;
        for (int k = from; k < from + 8; k++) {
            bytes = bytes << 8 | (k < text.length() ? text.charAt(k) : 0);
        }
        return bytes;
    }
}
