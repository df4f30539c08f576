import java.util.List;
import java.util.Random;

/** Holds BurningSlips against the Oracle on many bills made by chance, always the same ones. */
public final class OracleTest {
    private static int passed;
    private static int sound;
    private static int faults;
    private static int runs;
    private static int plain;

    public static void main(String[] args) {
        int rounds = args.length > 0 ? Integer.parseInt(args[0]) : 10000;
        int seed = args.length > 1 ? Integer.parseInt(args[1]) : 1;
        Random random = new Random(seed);
        BillMaker maker = new BillMaker(random);
        Shop shop = new Shop();
        for (int k = 0; k < rounds; k++) {
            if (k % 9 == 0) {
                shop.slips = new BurningSlips();
            }
            boolean isPlain = k % 4 == 3;
            String text = isPlain ? maker.makePlain(k % 40 == 3 ? 6 : 5) : maker.make();
            if (text.length() > 1000) {
                text = text.substring(0, 1000);
            }
            compare(shop, text, random);
        }
        System.out.println(rounds + " tapes: " + faults + " with a fault, " + passed + " bills passed, " + sound
                + " sound, " + runs + " runs, " + plain + " plain");
        Shop.due("tapes that tell little", passed > rounds / 3 && runs > rounds / 9 && plain > rounds / 9 ? 1 : 0, 1);
        Shop.finish("OracleTest");
    }

    private static void compare(Shop shop, String text, Random random) {
        Oracle oracle = new Oracle();
        int fault = Oracle.tryRead(text, oracle);
        int linesBefore = shop.slips.count(2);
        shop.same("bills", shop.tell(text), fault);
        if (fault != 0) {
            faults++;
            shop.same("lines stay", shop.slips.count(2), linesBefore);
            return;
        }
        BurningSlips x = shop.slips;
        shop.same("walls", x.count(0), oracle.wallNames.size());
        shop.same("count bills", x.count(1), oracle.bills.size());
        shop.same("count lines", x.count(2), oracle.flat.size());
        shop.same("signs", x.count(5), 0);
        for (Oracle.Line line : oracle.flat) {
            compareLine(shop, oracle, line);
        }
        for (Oracle.Bill bill : oracle.bills) {
            compareBill(shop, bill);
            compareWays(shop, oracle, bill);
            compareFree(shop, oracle, bill, random);
            if (bill.sound) {
                compareRun(shop, oracle, bill, random);
            } else {
                shop.same("begin", shop.begin(bill.number), 0);
            }
            compareOrders(shop, oracle, bill, random);
        }
    }

    private static void compareLine(Shop shop, Oracle oracle, Oracle.Line line) {
        BurningSlips x = shop.slips;
        int n = line.number;
        shop.same("line kind " + n, x.line(n, 0), List.of(Oracle.KINDS).indexOf(line.kind));
        shop.same("line laid " + n, x.line(n, 1), line.laid);
        shop.same("line besides " + n, x.line(n, 2), line.besides);
        shop.same("line reads " + n, x.line(n, 3), line.readings.size());
        shop.same("line calls " + n, x.line(n, 4), line.called);
    }

    private static void compareBill(Shop shop, Oracle.Bill bill) {
        BurningSlips x = shop.slips;
        int n = bill.number;
        int[] want = {bill.first, bill.count, bill.taken, bill.slips.size(), bill.wrong == 0 ? 1 : 0, bill.sound ? 1 : 0};
        for (int what = 0; what < 6; what++) {
            shop.same("bill " + n + " " + what, x.bill(n, what), want[what]);
        }
        shop.same("check 0 " + n, x.check(n, 0), bill.wrong);
        shop.same("check 1 " + n, x.check(n, 1), bill.wrongLine);
        shop.same("check 2 " + n, x.check(n, 2), bill.wrongSlip);
        passed += bill.wrong == 0 ? 1 : 0;
        sound += bill.sound ? 1 : 0;
    }

    private static void compareWays(Shop shop, Oracle oracle, Oracle.Bill bill) {
        BurningSlips x = shop.slips;
        int n = bill.number;
        List<int[]> ways = oracle.ways(bill);
        shop.same("ways 0", x.ways(n, 0), ways.size());
        shop.same("ways 1", x.ways(n, 1), extreme(ways, 0, true));
        shop.same("ways 2", x.ways(n, 2), extreme(ways, 0, false));
        for (int slip = 0; slip < bill.slips.size(); slip++) {
            shop.same("reads 0", x.reads(n, slip, 0), extreme(ways, 1 + slip, false));
            shop.same("reads 1", x.reads(n, slip, 1), extreme(ways, 1 + slip, true));
        }
        int[] needs = oracle.needs(bill);
        for (int what = 0; what < 4; what++) {
            shop.same("needs " + what, x.needs(n, what), needs[what]);
        }
    }

    private static int extreme(List<int[]> ways, int i, boolean most) {
        int found = ways.get(0)[i];
        for (int[] way : ways) {
            found = most ? Math.max(found, way[i]) : Math.min(found, way[i]);
        }
        return found;
    }

    private static int[] numbers(Random random) {
        int[] numbers = new int[4];
        for (int k = 0; k < 4; k++) {
            int way = random.nextInt(4);
            numbers[k] = way == 0 ? random.nextInt() : random.nextInt(9) - 2;
        }
        return numbers;
    }

    private static void compareFree(Shop shop, Oracle oracle, Oracle.Bill bill, Random random) {
        int[] numbers = numbers(random);
        Integer want = oracle.free(bill, numbers);
        shop.same("free " + bill.number, shop.free(bill.number, numbers), want == null ? Shop.THROWS : want);
    }

    private static void compareRun(Shop shop, Oracle oracle, Oracle.Bill bill, Random random) {
        runs++;
        int[] rooms = new int[400];
        int[] prices = new int[400];
        int room = random.nextInt(3) == 0 ? 1 + random.nextInt(6) : 1 + random.nextInt(99);
        int price = random.nextInt(100);
        for (int k = 0; k < 400; k++) {
            if (random.nextInt(30) == 0) {
                room = 1 + random.nextInt(random.nextInt(4) == 0 ? 8 : 99);
                price = random.nextInt(100);
            }
            rooms[k] = room;
            prices[k] = price;
        }
        int[] numbers = numbers(random);
        Oracle.Run run = oracle.new Run(bill, numbers, rooms, prices);
        BurningSlips x = shop.slips;
        set(shop, run, 0);
        shop.same("begin", shop.begin(bill.number, numbers), 1);
        int k = 0;
        compareState(shop, run.states.get(0));
        while (k + 1 < run.states.size()) {
            set(shop, run, k + 1);
            int mark = random.nextInt(4);
            boolean goesBack = random.nextInt(6) == 0;
            if (goesBack) {
                shop.same("mark", shop.mark(mark, false), 1);
                x.run(1 + random.nextInt(4));
                x.room(7);
                shop.same("mark back", shop.mark(mark, true), 1);
                shop.same("room back", x.count(3), rooms[Math.min(399, k + 1)]);
            }
            boolean deepens = run.states.get(k + 1).told[0] == 4;
            shop.same("run", x.run(1), deepens ? 0 : 1);
            k++;
            compareState(shop, run.states.get(k));
        }
        if (run.states.get(k).told[0] != 1) {
            shop.same("run on", x.run(5), 0);
        }
        x.room(99);
        x.price(1);
        // The same once more at one go: rooms do not change.
        java.util.Arrays.fill(rooms, 99);
        java.util.Arrays.fill(prices, 3);
        x.price(3);
        run = oracle.new Run(bill, numbers, rooms, prices);
        shop.begin(bill.number, numbers);
        State last = new State(run);
        int steps = random.nextInt(399);
        shop.same("run at one go", x.run(steps), Math.min(steps, last.worked));
        if (steps != last.worked || last.state.told[0] != 4) {
            compareState(shop, steps <= last.worked ? run.states.get(steps) : last.state);
        }
        x.price(1);
    }

    private static final class State {
        final Oracle.State state;
        final int worked;

        State(Oracle.Run run) {
            state = run.states.get(run.states.size() - 1);
            worked = state.told[6];
        }
    }

    private static void set(Shop shop, Oracle.Run run, int step) {
        int k = Math.min(step, run.rooms.length - 1);
        shop.slips.room(run.rooms[k]);
        shop.slips.price(run.prices[k]);
    }

    private static void compareState(Shop shop, Oracle.State state) {
        for (int what = 0; what < 8; what++) {
            shop.same("machine " + what + " at step " + state.told[6], shop.slips.machine(what), state.told[what]);
        }
        shop.same("given", shop.given(), state.told[0] == 2 ? state.gift : Shop.THROWS);
        for (int slip = -1; slip < 11; slip++) {
            Integer says = state.told[0] == 1 ? state.slips.get(slip) : null;
            shop.same("slip " + slip, shop.slip(slip), says == null ? Shop.THROWS : says);
        }
    }

    private static void compareOrders(Shop shop, Oracle oracle, Oracle.Bill bill, Random random) {
        BurningSlips x = shop.slips;
        int n = bill.number;
        boolean isPlain = oracle.isPlain(bill);
        shop.same("plain", x.plain(n), isPlain ? 1 : 0);
        if (!isPlain) {
            shop.same("fewest", x.fewest(n), -1);
            shop.same("order", x.order(n, 0), -1);
            shop.same("asTold", x.asTold(n), -1);
            shop.same("orders", x.orders(n, 5), -1);
            shop.same("cheapest", x.cheapest(n, 5, 5), -1);
            return;
        }
        plain++;
        List<List<Integer>> orders = oracle.allOrders(bill);
        int fewest = 99;
        long[] upTo = new long[21];
        List<Integer> first = null;
        for (List<Integer> order : orders) {
            int greatest = oracle.greatest(bill, order);
            if (greatest < fewest) {
                fewest = greatest;
                first = order;
            }
            for (int k = greatest; k <= 20; k++) {
                upTo[k]++;
            }
        }
        shop.same("fewest", x.fewest(n), fewest);
        for (int k = -1; k < 12; k++) {
            shop.same("order " + k, x.order(n, k), k >= 0 && k < first.size() ? first.get(k) : -1);
        }
        List<Integer> told = new java.util.ArrayList<>();
        for (int k = 0; k < first.size(); k++) {
            told.add(k);
        }
        shop.same("asTold", x.asTold(n), oracle.greatest(bill, told));
        for (int k = 0; k <= 20; k++) {
            shop.same("orders " + k, x.orders(n, k), upTo[k]);
        }
        if (first.size() > 5) {
            return;
        }
        for (int k = 0; k < 3; k++) {
            int writing = random.nextInt(random.nextBoolean() ? 10 : 100);
            int reckoning = random.nextInt(random.nextBoolean() ? 3 : 100);
            shop.same("cheapest " + writing + " " + reckoning, x.cheapest(n, writing, reckoning), oracle.cheapest(bill, writing, reckoning));
        }
    }
}
