import java.util.NoSuchElementException;

/** A BurningSlips that is fed texts, and whose answers are held against those that are due. */
final class Shop {
    /** What a call that throws answers here: no int. */
    static final long THROWS = Long.MAX_VALUE;

    static int wrong = 0;

    private static String sentence = "";

    BurningSlips slips = new BurningSlips();
    String told = "";

    static void due(String what, long got, long want) {
        if (got != want) {
            wrong++;
            if (wrong <= 40) {
                System.out.println(what + " answered " + got + ", due is " + want + by());
            }
        }
    }

    void same(String what, long got, long want) {
        if (got != want) {
            due(what + " of " + told.replace('\n', ' '), got, want);
        }
    }

    static void finish(String test) {
        System.out.println(test + ": " + (wrong == 0 ? "all answers are as due" : wrong + " answers are not as due"));
        if (wrong != 0) {
            System.exit(1);
        }
    }

    static long pack(String text, int from) {
        long eight = 0;
        for (int k = from; k < from + 8; k++) {
            eight = eight << 8 | (k < text.length() ? text.charAt(k) : 0);
        }
        return eight;
    }

    int feed(String text) {
        int length = slips.count(5);
        for (int k = 0; k < text.length(); k += 24) {
            length = slips.feed(pack(text, k), pack(text, k + 8), pack(text, k + 16));
        }
        return length;
    }

    int tell(String text) {
        told = text;
        feed(text);
        return slips.bills();
    }

    long given() {
        try {
            return slips.given();
        } catch (NoSuchElementException none) {
            return THROWS;
        }
    }

    long slip(int slip) {
        try {
            return slips.slip(slip);
        } catch (NoSuchElementException none) {
            return THROWS;
        }
    }

    long free(int bill, int... numbers) {
        int[] four = java.util.Arrays.copyOf(numbers, 4);
        try {
            return slips.free(bill, four[0], four[1], four[2], four[3]);
        } catch (NoSuchElementException none) {
            return THROWS;
        }
    }

    int begin(int bill, int... numbers) {
        int[] four = java.util.Arrays.copyOf(numbers, 4);
        return slips.begin(bill, four[0], four[1], four[2], four[3]) ? 1 : 0;
    }

    int mark(int mark, boolean back) {
        return slips.mark(mark, back) ? 1 : 0;
    }

    /** What the machine tells, 0 to 7 behind one another. */
    String machine() {
        StringBuilder text = new StringBuilder();
        for (int what = 0; what < 8; what++) {
            text.append(what == 0 ? "" : " ").append(slips.machine(what));
        }
        return text.toString();
    }

    void machineIs(String want) {
        String got = machine();
        if (!got.equals(want)) {
            wrong++;
            System.out.println("machine of " + told + " tells " + got + ", due is " + want + by());
        }
    }

    /** The words of the document that the checks behind them hold; DocumentTest looks for them there. */
    static void says(String words) {
        sentence = words;
    }

    private static String by() {
        return sentence.isEmpty() ? "" : ", by: " + sentence;
    }

    /** A shop that has been told a text without a FAULT. */
    static Shop with(String text) {
        Shop shop = new Shop();
        due("bills of " + text, shop.tell(text), 0);
        return shop;
    }

    /** The FAULT of a text, by its kind and by what stands ahead of the wrong token. */
    static void fault(int kind, String ahead, String rest) {
        due("FAULT of " + ahead + "|" + rest, new Shop().tell(ahead + rest), kind + 16 * ahead.length());
    }

    static void good(String text) {
        due("FAULT of " + text, new Shop().tell(text), 0);
    }

    /** What all calls that change nothing tell of what may be changed, in so few calls as will do. */
    String all() {
        StringBuilder text = new StringBuilder(machine());
        text.append(" given ").append(given());
        for (int slip = 0; slip < 10; slip++) {
            text.append(' ').append(slip(slip));
        }
        for (int what = 0; what < 6; what++) {
            text.append(' ').append(slips.count(what));
        }
        for (int bill = 0; bill < slips.count(1); bill++) {
            text.append(" bill ").append(slips.bill(bill, 0)).append(' ').append(slips.bill(bill, 3));
        }
        return text.toString();
    }

    void allIs(String when, String want) {
        String got = all();
        if (!got.equals(want)) {
            wrong++;
            System.out.println(when + ": all tells " + got + ", due is " + want + by());
        }
    }
}
