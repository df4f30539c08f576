import com.sun.management.ThreadMXBean;
import java.lang.management.ManagementFactory;
import java.util.Random;

/**
 * All calls of a run live in one room of 600,000 objects and 7.3 million fields and elements. What an
 * object makes is measured: nearly all of it when it is made, so that calls make next to nothing.
 */
public final class BudgetTest {
    // Eight bytes an element; rows of ints take four.
    private static final long MOST_BYTES = 8L * 60000;

    public static void main(String[] args) {
        ThreadMXBean bean = (ThreadMXBean) ManagementFactory.getThreadMXBean();
        long thread = Thread.currentThread().getId();
        String text = "wall w 3;bill p;take a most;take b most;let c most 1;let d most a+b;let e once c*d*c;give e+d+w;"
                + "bill q;take n once;twin n as a b;if a<1;burn b;let z once 0;else;let m once b-1;call q m as y;"
                + "let z once y+1;end;give z;bill r;if 1;burn a;else;end;if 1;burn b;else;burn c;end;give q+a;";
        Shop shop = new Shop();
        long worst = 0;
        for (int round = 0; round < 60; round++) {
            Random random = new Random(round);
            long before = bean.getThreadAllocatedBytes(thread);
            BurningSlips slips = new BurningSlips();
            long sum = 0;
            for (int call = 0; call < 512; call++) {
                sum += call(slips, text, call, random);
            }
            long made = bean.getThreadAllocatedBytes(thread) - before;
            // The first rounds make what the machine itself needs.
            worst = round < 20 ? 0 : Math.max(worst, made);
            shop.told = "" + sum;
        }
        System.out.println("512 calls make " + worst + " bytes");
        Shop.due("a run within its room", worst <= MOST_BYTES ? 1 : 0, 1);
        Shop.finish("BudgetTest");
    }

    private static long call(BurningSlips slips, String text, int call, Random random) {
        int from = 24 * (call % 30);
        if (from < text.length()) {
            return slips.feed(Shop.pack(text, from), Shop.pack(text, from + 8), Shop.pack(text, from + 16));
        }
        if (from < text.length() + 24) {
            return slips.bills();
        }
        int bill = random.nextInt(3);
        switch (random.nextInt(15)) {
            case 0: return slips.begin(bill, 3, 4, 5, 6) ? 1 : 0;
            case 1: return slips.run(1000);
            case 2: return slips.ways(bill, 0);
            case 3: return slips.reads(bill, 0, 0);
            case 4: return slips.needs(bill, 0);
            case 5: return slips.fewest(bill);
            case 6: return slips.order(bill, 1);
            case 7: return slips.orders(bill, 4);
            case 8: return slips.cheapest(bill, 5, 2);
            case 9: return slips.mark(1, random.nextBoolean()) ? 1 : 0;
            case 10: return bill == 2 ? 0 : slips.free(bill, 3, 3, 3, 3);
            case 11: return slips.asTold(bill);
            case 12: return slips.check(bill, 0);
            case 13: return slips.line(call % 20, 3);
            default: return slips.machine(3);
        }
    }
}
