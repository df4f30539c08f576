import java.util.NoSuchElementException;
import java.util.Random;

/** Any calls with any numbers: nothing is thrown but what the document names, and the same calls answer the same. */
public final class AnyCallTest {
    private static final int[] NUMBERS = {-1, 0, 1, 2, 3, 4, 5, 6, 7, 8, 9, 10, 11, 12, 13, 15, 16, 17, 20, 21, 31, 32, 33, 59, 60,
        61, 63, 64, 98, 99, 100, 512, 999, 1000, 1001, Integer.MAX_VALUE - 1, Integer.MAX_VALUE, Integer.MIN_VALUE,
        Integer.MIN_VALUE + 1, -2, -100};
    private static final int CALLS = 512;

    private final Random random;
    private final BillMaker maker;
    private final BurningSlips slips = new BurningSlips();
    private String text = "";
    private int fed;

    private AnyCallTest(long seed) {
        random = new Random(seed);
        maker = new BillMaker(random);
    }

    public static void main(String[] args) {
        int objects = args.length > 0 ? Integer.parseInt(args[0]) : 1500;
        for (int seed = 0; seed < objects; seed++) {
            long first = new AnyCallTest(seed).allCalls();
            Shop.due("the same calls of " + seed, new AnyCallTest(seed).allCalls(), first);
        }
        Shop.finish("AnyCallTest");
    }

    private long allCalls() {
        long answers = 0;
        for (int call = 0; call < CALLS; call++) {
            answers = answers * 31 + answer();
        }
        return answers;
    }

    private int number() {
        return random.nextInt(3) == 0 ? NUMBERS[random.nextInt(NUMBERS.length)] : random.nextInt(5);
    }

    private long answer() {
        if (fed < text.length()) {
            int from = fed;
            fed += 24;
            return slips.feed(Shop.pack(text, from), Shop.pack(text, from + 8), Shop.pack(text, from + 16));
        }
        if (!text.isEmpty() || random.nextInt(40) == 0) {
            boolean isTold = !text.isEmpty();
            text = isTold ? "" : newText();
            fed = 0;
            return isTold ? slips.bills() : 0;
        }
        int what = random.nextInt(24);
        return what < 3 ? askForNone(what) : ask(what);
    }

    /** The calls of which the document says that they throw. */
    private long askForNone(int what) {
        int a = number();
        int b = number();
        int c = number();
        try {
            return what == 0 ? slips.given() : what == 1 ? slips.slip(a) : slips.free(a, b, c, b, c);
        } catch (NoSuchElementException none) {
            return -77;
        }
    }

    private String newText() {
        switch (random.nextInt(4)) {
            case 0:
                return maker.makePlain(9);
            case 1:
                return noise();
            default:
                return maker.make();
        }
    }

    private String noise() {
        String signs = "let if else end give bill wall x y 1 ;;; ((( ))) not and < = + - * \n\u0000\u00ff~";
        StringBuilder made = new StringBuilder("bill b;");
        for (int k = random.nextInt(1100); k >= 0; k--) {
            made.append(signs.charAt(random.nextInt(signs.length())));
        }
        return made.toString();
    }

    private long ask(int what) {
        int a = number();
        int b = number();
        int c = number();
        switch (what) {
            case 3: return slips.room(a) ? 1 : 0;
            case 4: return slips.price(a) ? 1 : 0;
            case 5:
            case 6: return slips.begin(a, b, c, b, c) ? 1 : 0;
            case 7:
            case 8: return slips.run(a);
            case 9: return slips.machine(a);
            case 10: return slips.bill(a, b);
            case 11: return slips.line(a, b);
            case 12: return slips.check(a, b);
            case 13: return slips.ways(a, b);
            case 14: return slips.reads(a, b, c);
            case 15: return slips.needs(a, b);
            case 16: return slips.plain(a);
            case 17: return slips.fewest(a);
            case 18: return slips.order(a, b);
            case 19: return slips.asTold(a);
            case 20: return slips.orders(a, b);
            case 21: return slips.cheapest(a, b, c);
            case 22: return slips.mark(a, random.nextBoolean()) ? 1 : 0;
            default: return a == 0 ? slips.bills() : slips.count(a);
        }
    }
}
