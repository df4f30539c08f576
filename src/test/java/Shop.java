import java.util.NoSuchElementException;

/** A BurningSlips that is fed texts, and whose answers are held against those that are due. */
final class Shop {
    /** What a call that throws answers here: no int. */
    static final long THROWS = Long.MAX_VALUE;

    static int wrong = 0;

    BurningSlips slips = new BurningSlips();
    String told = "";

    static void due(String what, long got, long want) {
        if (got != want) {
            wrong++;
            if (wrong <= 40) {
                System.out.println(what + " answered " + got + ", due is " + want);
            }
        }
    }

    void same(String what, long got, long want) {
        if (got != want) {
            due(what + " of " + told.replace('\n', ' '), got, want);
        }
    }

    static void finish(String test) {
        System.out.println(test + ": " + (wrong == 0 ? "all answers are as due" : wrong + " answers are not as due"));
        if (wrong != 0) {
            System.exit(1);
        }
    }

    static long pack(String text, int from) {
        long eight = 0;
        for (int k = from; k < from + 8; k++) {
            eight = eight << 8 | (k < text.length() ? text.charAt(k) : 0);
        }
        return eight;
    }

    int feed(String text) {
        int length = slips.count(5);
        for (int k = 0; k < text.length(); k += 24) {
            length = slips.feed(pack(text, k), pack(text, k + 8), pack(text, k + 16));
        }
        return length;
    }

    int tell(String text) {
        told = text;
        feed(text);
        return slips.bills();
    }

    long given() {
        try {
            return slips.given();
        } catch (NoSuchElementException none) {
            return THROWS;
        }
    }

    long slip(int slip) {
        try {
            return slips.slip(slip);
        } catch (NoSuchElementException none) {
            return THROWS;
        }
    }

    long free(int bill, int... numbers) {
        int[] four = java.util.Arrays.copyOf(numbers, 4);
        try {
            return slips.free(bill, four[0], four[1], four[2], four[3]);
        } catch (NoSuchElementException none) {
            return THROWS;
        }
    }

    int begin(int bill, int... numbers) {
        int[] four = java.util.Arrays.copyOf(numbers, 4);
        return slips.begin(bill, four[0], four[1], four[2], four[3]) ? 1 : 0;
    }

    int mark(int mark, boolean back) {
        return slips.mark(mark, back) ? 1 : 0;
    }

    /** What the machine tells, 0 to 7 behind one another. */
    String machine() {
        StringBuilder text = new StringBuilder();
        for (int what = 0; what < 8; what++) {
            text.append(what == 0 ? "" : " ").append(slips.machine(what));
        }
        return text.toString();
    }

    void machineIs(String want) {
        String got = machine();
        if (!got.equals(want)) {
            wrong++;
            System.out.println("machine of " + told + " tells " + got + ", due is " + want);
        }
    }
}
