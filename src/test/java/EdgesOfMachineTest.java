/** Terms 3, promises 7 to 14 and 24: what is said of the MACHINE, of FREE and of MARKS, at its edges. */
public final class EdgesOfMachineTest {
    private static final int HIGH = Integer.MAX_VALUE;
    private static final int LOW = Integer.MIN_VALUE;

    // It calls itself twice with a number less, so what it gives is 2 to the n.
    private static final String TREE = "bill r;take n once;twin n as a b;if a;let m once b-1;twin m as k l;call r k as x;"
            + "call r l as y;let z once x+y;else;let z once b+1;end;give z;";
    private static final String ALL_KINDS = "bill f;take p once;take q most;let r once p;give r;"
            + "bill b;take a once;take c most;twin a as d e;if d;let g most 1;burn e;else;burn e;end;"
            + "let h once 7;call f h c as i;give i+1;";

    public static void main(String[] args) {
        begunWithNumbers();
        notBegun();
        steps();
        stepsOfElse();
        whatIsGone();
        called();
        ash();
        price();
        table();
        room();
        roomOfAll();
        fullAsBegun();
        fullBehindALine();
        fullStops();
        tooDeep();
        notTooDeep();
        statuses();
        runs();
        machineAsked();
        given();
        slips();
        freeUse();
        freeNeverLaid();
        freeLines();
        freeDepth();
        freeLeavesAll();
        marks();
        markHolds();
        marksOfStatuses();
        Shop.finish("EdgesOfMachineTest");
    }

    private static void due(String what, long got, long want) {
        Shop.due(what, got, want);
    }

    private static void begunWithNumbers() {
        Shop.says("MACHINE: a SOUND bill is begun with a number for each that it takes (0 for what is told beyond).");
        int[] numbers = {LOW, HIGH, -1, 7};
        for (int taken = 0; taken <= 4; taken++) {
            String takes = "take p most;take q most;take r most;take s most;".substring(0, 12 * taken);
            Shop shop = Shop.with("bill b;" + takes + "let t once 5;give t;");
            due("begin", shop.begin(0, numbers), 1);
            shop.machineIs("1 " + taken + " " + taken + " " + taken + " 0 0 0 1");
            for (int slip = 0; slip < 5; slip++) {
                due("slip " + slip + " of " + taken, shop.slip(slip), slip < taken ? numbers[slip] : Shop.THROWS);
            }
            due("a let", shop.slips.run(1), 1);
            due("5, whatever is told beyond", shop.slip(taken), 5);
            due("none of them is 0", shop.begin(0, 0, 0, 0, 0), 1);
            for (int slip = 0; slip < taken; slip++) {
                due("0", shop.slip(slip), 0);
            }
        }
        due("in their order", Shop.with("bill b;take a once;take c once;take d once;take e once;"
                + "give ((a*10+c)*10+d)*10+e;").free(0, 1, 2, 3, 4), 1234);
    }

    private static void notBegun() {
        Shop.says("A bill is begun: true; false: no such one, it is not SOUND (the MACHINE stays).");
        Shop shop = Shop.with("bill a;take x most;take y once;let z once y;give z;bill b;give u;bill c;call b as y;give y;"
                + "bill d;take x once;give 1;");
        int[] none = {-1, 1, 2, 3, 4, 5, HIGH, LOW};
        String[] status = {"idle", "goes on", "done", "FULL"};
        for (int k = 0; k < status.length; k++) {
            if (k > 0) {
                shop.slips.room(k == 3 ? 1 : 9);
                due("begin", shop.begin(0, 5, 6), 1);
                due("run", shop.slips.run(k == 2 ? 9 : 1), k == 3 ? 0 : k);
            }
            due(status[k], shop.slips.machine(0), k);
            String there = shop.all();
            for (int bill : none) {
                due("begin " + bill, shop.begin(bill, 1, 2, 3, 4), 0);
            }
            shop.allIs(status[k], there);
        }
        Shop fewer = Shop.with("bill a;give 1;");
        due("the last one", fewer.begin(0), 1);
        due("none behind it", fewer.begin(1), 0);
        fewer = Shop.with("bill a;give 1;bill b;give 1;bill c;give 1;bill d;give 4;");
        due("the fourth one", fewer.begin(3), 1);
        due("none behind it", fewer.begin(4), 0);
    }

    private static void worked(Shop shop, String... states) {
        for (int k = 0; k < states.length; k++) {
            due("step " + k, k == 0 ? 1 : shop.slips.run(1), 1);
            shop.machineIs(states[k]);
        }
    }

    private static void steps() {
        Shop.says("A STEP works a LINE (take is none): let, twin, burn, call (begins the bill; its give goes on behind it),"
                + " if (goes on behind it or behind its else), else (goes on behind its end; what is gone there is taken away),"
                + " end (likewise), give.");
        Shop shop = Shop.with(ALL_KINDS);
        due("begin", shop.begin(1, 5, 6), 1);
        worked(shop, "1 6 2 2 0 0 0 1", "1 7 3 3 1 1 1 1", "1 8 2 3 2 1 2 1", "1 9 3 3 2 1 3 1", "1 10 2 3 3 1 4 1",
                "1 13 1 3 4 1 5 1", "1 14 2 3 4 1 6 1", "1 2 2 3 6 1 7 2", "1 3 2 3 7 1 8 2", "1 15 1 3 9 1 9 1",
                "2 -1 0 3 10 1 10 0");
        due("given", shop.given(), 8);
    }

    private static void stepsOfElse() {
        Shop shop = Shop.with(ALL_KINDS);
        due("begin", shop.begin(1, 0, 6), 1);
        worked(shop, "1 6 2 2 0 0 0 1", "1 7 3 3 1 1 1 1", "1 11 2 3 2 1 2 1", "1 12 1 3 3 1 3 1", "1 13 1 3 3 1 4 1",
                "1 14 2 3 3 1 5 1", "1 2 2 3 5 1 6 2", "1 3 2 3 6 1 7 2", "1 15 1 3 8 1 8 1", "2 -1 0 3 9 1 9 0");
        // Branches without a LINE: if, else; if, end.
        shop = Shop.with("bill b;take n once;if n;else;end;give 4;");
        shop.begin(0, 1);
        worked(shop, "1 1 1 1 0 0 0 1", "1 2 0 1 1 0 1 1", "1 4 0 1 1 0 2 1", "2 -1 0 1 1 0 3 0");
        shop.begin(0, 0);
        worked(shop, "1 1 1 1 0 0 0 1", "1 3 0 1 1 0 1 1", "1 4 0 1 1 0 2 1", "2 -1 0 1 1 0 3 0");
        // In one another: each goes on behind its own else and end.
        shop = Shop.with("bill b;take m once;take n once;if m;if n;let x once 1;else;let x once 2;end;else;"
                + "if n;let x once 3;else;let x once 4;end;end;give x;");
        int[][] cases = {{1, 1, 1}, {1, 0, 2}, {0, 1, 3}, {0, 0, 4}, {-1, HIGH, 1}, {LOW, 0, 2}};
        for (int[] told : cases) {
            due("begin", shop.begin(0, told[0], told[1]), 1);
            due("if, if, let, else or end, else or end, give", shop.slips.run(99), 6);
            due("given by branches", shop.given(), told[2]);
        }
    }

    private static void whatIsGone() {
        // Of most: laid in the one branch only, or read in the one branch only.
        Shop shop = Shop.with("bill b;take n once;take a most;take c most;if n;burn a;let d most 1;let e most 1;else;burn c;"
                + "let g most 1;end;give 5;");
        due("passes", shop.slips.check(0, 0), 0);
        shop.begin(0, 1, 8, 9);
        worked(shop, "1 3 3 3 0 0 0 1", "1 4 2 3 1 0 1 1", "1 5 1 3 2 0 2 1", "1 6 2 3 2 0 3 1", "1 7 3 3 2 0 4 1",
                "1 11 0 3 5 0 5 1", "2 -1 0 3 5 0 6 0");
        shop.begin(0, 0, 8, 9);
        worked(shop, "1 3 3 3 0 0 0 1", "1 8 2 3 1 0 1 1", "1 9 1 3 2 0 2 1", "1 10 2 3 2 0 3 1", "1 11 0 3 4 0 4 1",
                "2 -1 0 3 4 0 5 0");
        shop = Shop.with("bill b;take n once;if n;let d most 1;let e most 2;else;let e most 3;let g most 4;end;let h once 1;give h;");
        shop.begin(0, 1);
        due("to else", shop.slips.run(3), 3);
        due("d", shop.slip(1), 1);
        due("e", shop.slip(2), 2);
        due("else", shop.slips.run(1), 1);
        shop.machineIs("1 8 1 2 2 0 4 1");
        due("d is gone", shop.slip(1), Shop.THROWS);
        due("e is there in both", shop.slip(2), 2);
        shop.begin(0, 0);
        due("to end", shop.slips.run(3), 3);
        due("e", shop.slip(2), 3);
        due("g", shop.slip(3), 4);
        due("end", shop.slips.run(1), 1);
        shop.machineIs("1 8 1 2 2 0 4 1");
        due("g is gone", shop.slip(3), Shop.THROWS);
        due("e is there in both", shop.slip(2), 3);
    }

    private static void called() {
        // Four numbers in another order, each to the SLIP that is taken for it.
        Shop shop = Shop.with("bill f;take p once;take q once;take r once;take s once;give ((p*10+q)*10+r)*10+s;"
                + "bill b;take a once;take c once;take d once;take e once;let g most 9;call f e c a d as a;give a;");
        shop.begin(1, 1, 2, 3, 4);
        due("to the call", shop.slips.run(2), 2);
        shop.machineIs("1 4 5 5 4 0 2 2");
        int[] want = {4, 2, 1, 3};
        for (int slip = 0; slip < 5; slip++) {
            due("taken", shop.slip(slip), slip < 4 ? want[slip] : Shop.THROWS);
        }
        due("its give", shop.slips.run(1), 1);
        due("a", shop.slip(0), 4213);
        due("g is there still", shop.slip(4), 9);
        due("the rest", shop.slips.run(1), 1);
        due("given", shop.given(), 4213);
        due("FREE", shop.free(1, 1, 2, 3, 4), 4213);
        // The same NAME told as what comes of it; a bill that takes none.
        shop = Shop.with("bill z;give 6;bill b;call z as x;call z as y;give x*10+y;");
        shop.begin(1);
        worked(shop, "1 1 0 0 0 0 0 1", "1 0 0 0 0 0 1 2", "1 2 1 1 0 0 2 1", "1 0 1 1 0 0 3 2", "1 3 2 2 0 0 4 1",
                "2 -1 0 2 2 0 5 0");
        due("given", shop.given(), 66);
    }

    private static void ash() {
        Shop.says("Reading makes ASH (one each); a SLIP of most that is left at give, or gone at an end, is ASH as well.");
        Shop shop = Shop.with("bill b;take a most;take c most;take d most;take e most;give 1;");
        shop.begin(0, 1, 2, 3, 4);
        due("no ASH as it is begun", shop.slips.machine(4), 0);
        shop.slips.run(1);
        shop.machineIs("2 -1 0 4 4 0 1 0");
        shop = Shop.with("bill b;take a most;take c most;take d once;give c+d;");
        shop.begin(0, 1, 2, 3);
        shop.slips.run(1);
        shop.machineIs("2 -1 0 3 3 0 1 0");
        shop = Shop.with("bill b;give 1;");
        shop.begin(0);
        shop.slips.run(1);
        shop.machineIs("2 -1 0 0 0 0 1 0");
        // Left at the give of a bill that is called; a begun one starts from none.
        shop = Shop.with("bill f;take p most;take q most;give 3;bill b;take a once;take c once;call f a c as d;give d;");
        shop.begin(1, 1, 2);
        worked(shop, "1 5 2 2 0 0 0 1", "1 2 2 2 2 0 1 2", "1 6 1 2 4 0 2 1", "2 -1 0 2 5 0 3 0");
        shop.begin(1, 1, 2);
        due("none again", shop.slips.machine(4), 0);
    }

    private static void price() {
        Shop.says("A twin costs the PRICE (0 to 99; 1 at first).");
        Shop shop = Shop.with("bill b;take a once;twin a as c d;twin c as e g;burn d;burn e;give g;");
        due("at first", shop.slips.count(4), 1);
        shop.begin(0, 5);
        shop.slips.run(1);
        due("a twin at first", shop.slips.machine(5), 1);
        shop.slips.run(9);
        due("another", shop.slips.machine(5), 2);
        Shop.says("The PRICE: true; false: others.");
        int[] good = {0, 99, 1, 98};
        for (int price : good) {
            due("price " + price, shop.slips.price(price) ? 1 : 0, 1);
            due("is", shop.slips.count(4), price);
            for (int other : new int[] {-1, 100, 101, HIGH, LOW}) {
                due("price " + other, shop.slips.price(other) ? 1 : 0, 0);
                due("stays", shop.slips.count(4), price);
            }
            shop.begin(0, 5);
            due("no coin yet", shop.slips.machine(5), 0);
            due("all", shop.slips.run(9), 5);
            due("two twins", shop.slips.machine(5), 2 * price);
        }
        // What was paid is paid; each costs the PRICE of its time; nothing else costs.
        shop.slips.price(99);
        shop.begin(0, 5);
        shop.slips.run(1);
        shop.slips.price(0);
        due("paid", shop.slips.machine(5), 99);
        shop.slips.run(1);
        due("for nothing", shop.slips.machine(5), 99);
        shop.slips.price(40);
        shop.slips.run(9);
        due("no more twins", shop.slips.machine(5), 99);
    }

    private static void table() {
        Shop.says("The TABLE are all SLIPS of all bills that are worked.");
        Shop shop = Shop.with("bill f;take p once;let q most 1;let r most 2;give p;bill g;take p once;let s most 3;call f p as u;"
                + "give u;bill h;take p once;let t most 4;let v most 4;call g p as u;give u;");
        shop.begin(2, 7);
        // p; t, v; in g p, s; in f p, q, r; their gives make ASH of what is left.
        worked(shop, "1 9 1 1 0 0 0 1", "1 10 2 2 0 0 1 1", "1 11 3 3 0 0 2 1", "1 5 3 3 1 0 3 2", "1 6 4 4 1 0 4 2",
                "1 1 4 4 2 0 5 3", "1 2 5 5 2 0 6 3", "1 3 6 6 2 0 7 3", "1 7 4 6 5 0 8 2", "1 12 3 6 7 0 9 1",
                "2 -1 0 6 10 0 10 0");
    }

    private static void room() {
        Shop.says("The ROOM: true; false: others.");
        Shop shop = Shop.with("bill b;let a once 1;let c once 2;let d once 3;give a+c+d;");
        due("at first", shop.slips.count(3), 99);
        for (int room : new int[] {1, 99, 2, 98}) {
            due("room " + room, shop.slips.room(room) ? 1 : 0, 1);
            due("is", shop.slips.count(3), room);
            for (int other : new int[] {0, -1, 100, 101, HIGH, LOW}) {
                due("room " + other, shop.slips.room(other) ? 1 : 0, 0);
                due("stays", shop.slips.count(3), room);
            }
        }
        int[] steps = {0, 2, 3, 4, 4};
        for (int room = 1; room <= 4; room++) {
            shop.slips.room(room);
            shop.begin(0);
            due("steps in a room of " + room, shop.slips.run(9), steps[room]);
            due("status in a room of " + room, shop.slips.machine(0), room < 3 ? 3 : 2);
            due("the most there were", shop.slips.machine(3), Math.min(3, room + 1));
        }
    }

    private static void roomOfAll() {
        Shop.says("It is FULL if behind a LINE (or as a bill is begun) there are more than ROOM (1 to 99; 99 at first):"
                + " it stops then.");
        // Each bill leaves eight SLIPS on the table of all.
        String pile = "bill r;take n most;let a most 1;let b most 1;let c most 1;let d most 1;let e most 1;let f most 1;"
                + "let g most 1;let h most 1;call r n as i;give i;";
        Shop shop = Shop.with(pile);
        due("begin", shop.begin(0, 3), 1);
        due("to 99", shop.slips.run(110), 110);
        shop.machineIs("1 3 99 99 12 0 110 13");
        due("to 100", shop.slips.run(1000), 1);
        shop.machineIs("3 -1 100 100 12 0 111 13");
        due("no step more", shop.slips.run(1000), 0);
        shop.slips.room(98);
        due("begin", shop.begin(0, 3), 1);
        due("to 98 and more", shop.slips.run(1000), 110);
        shop.machineIs("3 -1 99 99 12 0 110 13");
    }

    private static void fullAsBegun() {
        String four = "bill b;take a most;take c most;take d most;take e most;give 1;bill n;give 1;bill o;take a once;give a;";
        for (int room = 1; room <= 5; room++) {
            Shop shop = Shop.with(four);
            shop.slips.room(room);
            due("begin in a room of " + room, shop.begin(0, 1, 2, 3, 4), 1);
            shop.machineIs(room < 4 ? "3 -1 4 4 0 0 0 1" : "1 4 4 4 0 0 0 1");
            due("run", shop.slips.run(5), room < 4 ? 0 : 1);
            due("slip", shop.slip(0), Shop.THROWS);
        }
        Shop shop = Shop.with(four);
        shop.slips.room(1);
        due("none in the least room", shop.begin(1), 1);
        due("goes on", shop.slips.machine(0), 1);
        due("one in the least room", shop.begin(2, 5), 1);
        due("goes on", shop.slips.machine(0), 1);
        shop.begin(0, 1, 2, 3, 4);
        due("FULL", shop.slips.machine(0), 3);
        due("another is begun then", shop.begin(2, 5), 1);
        due("and done", shop.slips.run(5), 1);
        due("given", shop.given(), 5);
    }

    /** A bill in a room of so many, that is made smaller behind some steps: steps worked then, and the state. */
    private static void shrunk(String lines, int steps, int room, int more, String state) {
        Shop shop = Shop.with("bill z;give 1;bill y;take p once;give p;bill b;" + lines);
        due("begin", shop.begin(2, 1, 1, 1, 1), 1);
        due("first steps", shop.slips.run(steps), steps);
        due("room", shop.slips.room(room) ? 1 : 0, 1);
        due("goes on", shop.slips.machine(0), 1);
        due("steps in the small room of " + lines, shop.slips.run(1000), more);
        shop.told = lines;
        shop.machineIs(state);
    }

    private static void fullBehindALine() {
        // One LINE behind which there is more than ROOM: let, twin, burn, call, if, else, end, give of a called bill.
        shrunk("take a most;take c most;let d most 1;give 1;", 0, 2, 1, "3 -1 3 3 0 0 1 1");
        shrunk("take a most;take c most;let d most a;give 1;", 0, 2, 2, "2 -1 0 2 3 0 2 0");
        shrunk("take a most;take c once;twin c as d e;give d+e;", 0, 2, 1, "3 -1 3 3 1 1 1 1");
        shrunk("take a most;take c most;take d once;burn d;give 1;", 0, 1, 1, "3 -1 2 3 1 0 1 1");
        shrunk("take a most;take c once;burn c;give 1;", 0, 1, 2, "2 -1 0 2 2 0 2 0");
        shrunk("take a most;take c once;call y c as d;give d;", 0, 1, 1, "3 -1 2 2 1 0 1 2");
        shrunk("take a most;take c most;if 1;else;end;give 1;", 0, 1, 1, "3 -1 2 2 0 0 1 1");
        shrunk("take a most;take c most;if 1;else;end;give 1;", 1, 1, 1, "3 -1 2 2 0 0 2 1");
        shrunk("take a most;take c most;if 0;else;end;give 1;", 1, 1, 1, "3 -1 2 2 0 0 2 1");
        shrunk("take a most;if 1;let c most 1;else;end;give 1;", 2, 1, 2, "2 -1 0 2 2 0 4 0");
        shrunk("take a most;if 0;else;let c most 1;end;give 1;", 2, 1, 2, "2 -1 0 2 2 0 4 0");
        shrunk("take a most;call z as c;give c;", 1, 1, 1, "3 -1 2 2 0 0 2 1");
        shrunk("take a most;call z as c;give c;", 1, 2, 2, "2 -1 0 2 2 0 3 0");
        // Behind the last give there is nothing on the table.
        shrunk("take a most;take c most;take d once;give d;", 0, 1, 1, "2 -1 0 3 3 0 1 0");
        // As many as ROOM is not more.
        shrunk("take a most;take c most;let d most 1;give 1;", 0, 3, 2, "2 -1 0 3 3 0 2 0");
    }

    private static void fullStops() {
        Shop shop = Shop.with("bill b;take a most;let c most 1;let d most 2;give 1;");
        shop.slips.room(2);
        shop.begin(0, 5);
        due("to FULL", shop.slips.run(1000), 2);
        String there = shop.all();
        due("no more", shop.slips.run(1000), 0);
        due("none", shop.slips.run(0), 0);
        due("no slip", shop.slip(0), Shop.THROWS);
        due("not given", shop.given(), Shop.THROWS);
        shop.allIs("FULL", there);
        due("more room", shop.slips.room(99) ? 1 : 0, 1);
        shop.machineIs("3 -1 3 3 0 0 2 1");
        due("it has stopped for all that", shop.slips.run(1000), 0);
    }

    private static void tooDeep() {
        Shop.says("It stops TOO DEEP if a 17th bill would be worked at once (that LINE is not worked).");
        String deep = "bill r;take n most;let m most 3;call r n as k;give k;";
        Shop shop = Shop.with(deep);
        shop.begin(0, 1);
        due("sixteen bills", shop.slips.run(31), 31);
        shop.machineIs("1 2 17 17 15 0 31 16");
        due("n is there", shop.slip(0), 1);
        due("no step, no change", shop.slips.run(0), 0);
        due("goes on", shop.slips.machine(0), 1);
        due("not worked", shop.slips.run(1), 0);
        shop.machineIs("4 -1 17 17 15 0 31 16");
        due("no slip", shop.slip(0), Shop.THROWS);
        due("not given", shop.given(), Shop.THROWS);
        due("no more", shop.slips.run(1000), 0);
        shop.machineIs("4 -1 17 17 15 0 31 16");
        due("begun anew", shop.begin(0, 1), 1);
        due("at one go", shop.slips.run(1000), 31);
        shop.machineIs("4 -1 17 17 15 0 31 16");
        // FULL ahead of that.
        shop.slips.room(16);
        shop.begin(0, 1);
        due("FULL as the last one lays its own", shop.slips.run(1000), 31);
        due("FULL", shop.slips.machine(0), 3);
        shop.slips.room(17);
        shop.begin(0, 1);
        shop.slips.run(1000);
        due("TOO DEEP", shop.slips.machine(0), 4);
    }

    private static void notTooDeep() {
        String down = "bill r;take n once;twin n as a b;if a;let m once b-1;call r m as y;let y once y+1;else;let y once b;end;give y;";
        Shop shop = Shop.with(down);
        due("begin", shop.begin(0, 15), 1);
        due("sixteen at once", shop.slips.run(15 * 4 + 4), 64);
        due("so many", shop.slips.machine(7), 16);
        due("goes on", shop.slips.machine(0), 1);
        due("its give, and the others' rest", shop.slips.run(1000), 1 + 15 * 3);
        due("given", shop.given(), 15);
        due("begin", shop.begin(0, 16), 1);
        shop.slips.run(1000);
        due("TOO DEEP", shop.slips.machine(0), 4);
        due("so many", shop.slips.machine(7), 16);
        // Seventeen and more, but not at once.
        shop = Shop.with("bill z;give 1;bill b;let x once 0;" + "call z as y;let x once x+y;".repeat(25) + "give x;");
        due("begin", shop.begin(1), 1);
        due("one behind another", shop.slips.run(1000), 2 + 25 * 3);
        due("given", shop.given(), 25);
    }

    private static void statuses() {
        Shop.says("STATUS: 0 nothing begun, 1 goes on, 2 done, 3 FULL, 4 TOO DEEP.");
        Shop shop = Shop.with("bill a;take x most;let y most 1;give 1;bill r;take n once;call r n as m;give m;");
        due("nothing begun", shop.slips.machine(0), 0);
        shop.begin(0, 1);
        due("goes on", shop.slips.machine(0), 1);
        shop.slips.run(2);
        due("done", shop.slips.machine(0), 2);
        shop.slips.room(1);
        shop.begin(0, 1);
        due("goes on", shop.slips.machine(0), 1);
        shop.slips.run(1);
        due("FULL", shop.slips.machine(0), 3);
        shop.begin(1, 1);
        shop.slips.run(16);
        due("TOO DEEP", shop.slips.machine(0), 4);
        shop.begin(0, 1);
        due("goes on", shop.slips.machine(0), 1);
    }

    private static void runs() {
        Shop.says("So many STEPS (0 to 1000), as far as it goes: how many were worked; NONE: others.");
        Shop shop = Shop.with(TREE);
        int[] others = {-1, 1001, HIGH, LOW};
        for (int steps : others) {
            due("idle, run " + steps, shop.slips.run(steps), -1);
        }
        due("idle", shop.slips.run(1000), 0);
        due("idle", shop.slips.run(0), 0);
        due("begin", shop.begin(0, 9), 1);
        String there = shop.all();
        for (int steps : others) {
            due("run " + steps, shop.slips.run(steps), -1);
        }
        due("run 0", shop.slips.run(0), 0);
        shop.allIs("others", there);
        due("run 1", shop.slips.run(1), 1);
        due("run 999", shop.slips.run(999), 999);
        due("steps", shop.slips.machine(6), 1000);
        due("run 1000", shop.slips.run(1000), 1000);
        due("steps", shop.slips.machine(6), 2000);
        // 511 bills of nine LINES (twin, if, let, twin, call, call, let, else, give) and 512 of five.
        int rest = 511 * 9 + 512 * 5 - 2000;
        while (rest > 1000) {
            due("run 1000", shop.slips.run(1000), 1000);
            rest -= 1000;
        }
        due("the rest", shop.slips.run(rest - 1), rest - 1);
        due("goes on", shop.slips.machine(0), 1);
        due("its give", shop.slips.run(1000), 1);
        due("done", shop.slips.run(1000), 0);
        due("steps", shop.slips.machine(6), 511 * 9 + 512 * 5);
        due("given", shop.given(), 512);
        due("done, run -1", shop.slips.run(-1), -1);
        due("done, run 1001", shop.slips.run(1001), -1);
    }

    private static void machineAsked() {
        Shop.says("Of the MACHINE, what 0: STATUS, 1: the LINE that is next (NONE: it does not go on), 2: SLIPS on the TABLE,"
                + " 3: the most there were, 4: ASH, 5: coin, 6: STEPS, 7: bills worked at once; NONE for another what.");
        Shop shop = Shop.with("bill a;take x most;take y most;burn x;give 1;");
        for (int k = 0; k < 3; k++) {
            for (int what : new int[] {-1, 8, HIGH, LOW}) {
                due("machine " + what, shop.slips.machine(what), -1);
            }
            if (k < 2) {
                shop.begin(0, 1, 2);
                shop.slips.run(k * 2);
            }
        }
        // The most there were: as it was begun, for a bill that was begun later fewer.
        shop.begin(0, 1, 2);
        shop.machineIs("1 2 2 2 0 0 0 1");
        shop.slips.run(1);
        shop.machineIs("1 3 1 2 1 0 1 1");
        shop.slips.run(1);
        shop.machineIs("2 -1 0 2 2 0 2 0");
        shop = Shop.with("bill a;take x most;take y most;give 1;bill b;give 1;");
        shop.begin(0, 1, 2);
        shop.slips.run(1);
        shop.begin(1);
        shop.machineIs("1 3 0 0 0 0 0 1");
    }

    private static void given() {
        Shop.says("What was given. NoSuchElementException: not done.");
        Shop shop = Shop.with("bill a;take x once;give x;bill r;take n once;call r n as m;give m;bill w;give u;");
        due("nothing begun", shop.given(), Shop.THROWS);
        for (int number : new int[] {0, -1, HIGH, LOW}) {
            due("begin", shop.begin(0, number), 1);
            due("not yet", shop.given(), Shop.THROWS);
            shop.slips.run(0);
            due("not yet", shop.given(), Shop.THROWS);
            shop.slips.run(1);
            due("given", shop.given(), number);
            due("given again", shop.given(), number);
        }
        due("not SOUND", shop.begin(2), 0);
        due("given still", shop.given(), LOW);
        due("FREE meanwhile", shop.free(0, 8), 8);
        due("given still", shop.given(), LOW);
        due("a fault", shop.tell("bill"), 1 + 16 * 4);
        due("given still", shop.given(), LOW);
        shop.begin(1, 1);
        shop.slips.run(1000);
        due("TOO DEEP", shop.given(), Shop.THROWS);
        due("told", shop.tell("bill a;take x most;take y most;give 3;"), 0);
        due("nothing begun", shop.given(), Shop.THROWS);
        shop.slips.room(1);
        shop.begin(0, 1, 2);
        due("FULL", shop.given(), Shop.THROWS);
    }

    private static void slips() {
        Shop.says("What a SLIP says that lies on the table of the bill that is worked."
                + " NoSuchElementException: it does not go on, none such.");
        String ten = "bill b;take a most;let b most 11;let c most 12;let d most 13;let e most 14;let f most 15;let g most 16;"
                + "let h most 17;let i most 18;let j once 19;give j;";
        Shop shop = Shop.with(ten);
        due("nothing begun", shop.slip(0), Shop.THROWS);
        shop.begin(0, 10);
        for (int laid = 1; laid <= 10; laid++) {
            for (int slip = 0; slip < 10; slip++) {
                due("slip " + slip + " of " + laid, shop.slip(slip), slip < laid ? 10 + slip : Shop.THROWS);
            }
            for (int slip : new int[] {-1, 10, 11, 32, 64, HIGH, LOW}) {
                due("slip " + slip, shop.slip(slip), Shop.THROWS);
            }
            due("a step", shop.slips.run(1), 1);
        }
        due("done", shop.slip(0), Shop.THROWS);
        // Another bill's table; one that is read is none such; a deep one's neighbours.
        shop = Shop.with("bill f;take p once;let q once p+1;give q;bill b;take a once;take c most;call f a as d;give d;");
        shop.begin(1, 5, 6);
        due("a", shop.slip(0), 5);
        due("c", shop.slip(1), 6);
        shop.slips.run(1);
        due("p", shop.slip(0), 5);
        due("no q", shop.slip(1), Shop.THROWS);
        shop.slips.run(1);
        due("p is ash", shop.slip(0), Shop.THROWS);
        due("q", shop.slip(1), 6);
        shop.slips.run(1);
        due("a is ash", shop.slip(0), Shop.THROWS);
        due("c", shop.slip(1), 6);
        due("d", shop.slip(2), 6);
        shop = Shop.with("bill r;take n most;let m most n+1;call r m as k;give k;");
        shop.begin(0, 1);
        shop.slips.run(30);
        due("of the sixteenth", shop.slip(0), 16);
        due("none of the fifteenth", shop.slip(1), Shop.THROWS);
        shop.slips.run(1);
        due("read", shop.slip(0), Shop.THROWS);
        due("laid", shop.slip(1), 17);
        shop.slips.run(1);
        due("TOO DEEP", shop.slip(1), Shop.THROWS);
    }

    private static void freeUse() {
        Shop.says("FREE: a bill worked with SLIPS that do not burn (passed or not; let, as lay anew what is there;"
                + " burn does nothing, it does not read either): what it gives;");
        // Not passed by each wrong: read twice, laid twice, unlike branches, left.
        due("read twice", Shop.with("bill b;take a once;give a+a*a;").free(0, 3), 12);
        due("let anew", Shop.with("bill b;take a once;let a once 8;give a;").free(0, 3), 8);
        due("let anew of itself", Shop.with("bill b;take a once;let a most a+1;let a once a*a;give a;").free(0, 3), 16);
        due("twin anew", Shop.with("bill b;take a once;take c once;twin a as c a;give a*10+c;").free(0, 3, 4), 33);
        due("twin of one", Shop.with("bill b;take a once;twin a as c c;give a*10+c;").free(0, 3), 33);
        due("call anew", Shop.with("bill f;take x once;give x+1;bill b;take a once;call f a as a;call f a as a;give a;").free(1, 3), 5);
        due("unlike", Shop.with("bill b;take a once;if a;let c once 5;else;let c most 6;end;give c;").free(0, 3), 5);
        due("left", Shop.with("bill b;take a once;give 9;").free(0, 3), 9);
        due("burnt", Shop.with("bill b;take a once;burn a;burn a;give a;").free(0, 3), 3);
        due("burnt, never laid", Shop.with("bill b;burn z;give 4;").free(0), 4);
        due("of most in the one branch", Shop.with("bill b;take a once;if a;let c most 7;else;end;give c;").free(0, 1), 7);
        due("of most, not read", Shop.with("bill b;take a once;if a;else;let c most 7;end;give c+a;").free(0, 0), 7);
        due("read in the one branch", Shop.with("bill b;take a most;if 1;burn a;else;end;give a;").free(0, 6), 6);
        due("a call of one that does not pass", Shop.with("bill f;take x once;give x+x;bill b;take a once;call f a as c;give a+c;")
                .free(1, 5), 15);
        Shop.says("What a bill gives, FREE. NoSuchElementException: no such one, none.");
        Shop shop = Shop.with("bill a;give 7;bill b;give u;");
        due("the first", shop.free(0), 7);
        for (int bill : new int[] {-1, 1, 2, 3, 4, HIGH, LOW}) {
            due("free " + bill, shop.free(bill), Shop.THROWS);
        }
    }

    private static void freeNeverLaid() {
        Shop.says("none if a SLIP is read that was never laid in it,");
        for (String line : new String[] {"let x once y;", "let x once 0*y;", "if y;else;end;", "twin y as a b;", "call f y as x;"}) {
            String ahead = "bill f;take p once;give p;bill b;";
            due("never laid: " + line, Shop.with(ahead + line + "give 1;").free(1), Shop.THROWS);
            due("laid behind: " + line, Shop.with(ahead + line + "let y once 1;give 1;").free(1), Shop.THROWS);
            due("laid ahead: " + line, Shop.with(ahead + "let y once 1;" + line + "give 1;").free(1), 1);
            due("not worked: " + line, Shop.with(ahead + "if 0;" + line + "else;end;give 1;").free(1), 1);
        }
        due("give", Shop.with("bill b;give y;").free(0, 1, 2, 3, 4), Shop.THROWS);
        due("told beyond what it takes", Shop.with("bill b;take x once;give x+y;").free(0, 1, 2, 3, 4), Shop.THROWS);
        due("laid in the other branch", Shop.with("bill b;take a once;if a;let x once 1;else;end;give x;").free(0, 0), Shop.THROWS);
        due("laid in this branch", Shop.with("bill b;take a once;if a;let x once 1;else;end;give x;").free(0, 2), 1);
        // Not in it, but in the one that calls it, in one that it calls, or in the same one called ahead.
        due("of the caller", Shop.with("bill f;give x;bill b;let x once 1;call f as y;give y;").free(1), Shop.THROWS);
        due("of the called", Shop.with("bill f;let x once 1;give x;bill b;call f as y;give x;").free(1), Shop.THROWS);
        String twice = "bill f;take a once;if a;let x once 5;else;end;give x;bill b;take a once;take c once;"
                + "call f a as p;call f c as q;give p+q;";
        due("laid in both", Shop.with(twice).free(1, 1, 1), 10);
        due("laid ahead only", Shop.with(twice).free(1, 1, 0), Shop.THROWS);
        due("called by itself", Shop.with("bill f;take a once;let x once a;if a;let z once 0;call f z as y;else;let y once x;end;"
                + "give x*10+y;").free(0, 4), 40);
        // An unlaid SLIP is none such the next time, too: another working begins with what it takes.
        Shop shop = Shop.with("bill b;take a once;if a;let x once 1;else;end;give x;");
        due("laid", shop.free(0, 1), 1);
        due("not laid the next time", shop.free(0, 0), Shop.THROWS);
        due("laid again", shop.free(0, 1), 1);
    }

    private static void freeLines() {
        Shop.says("if the 3,000th LINE did not end it, or TOO DEEP.");
        // With 8 there are 255 bills of seven LINES (if, let, call, call, let, else, give) and 256 of four.
        String r = "bill r;take n once;if n;let m once n-1;call r m as x;call r m as y;let y once x+y;else;let y once 1;end;give y;";
        due("2809 LINES", Shop.with(r).free(0, 8), 256);
        due("511 of seven and more", Shop.with(r).free(0, 9), Shop.THROWS);
        // Those, the call of it, nine calls with twenty LINES each: 2999, and give is the 3,000th.
        String s = r + "bill t;" + "burn x;".repeat(19) + "give 1;bill s;take n once;call r n as y;" + "call t as x;".repeat(9);
        due("2,999 LINES", Shop.with(s.replace("burn x;give 1;", "give 1;") + "burn y;".repeat(8) + "give y;").free(2, 8), 256);
        due("3,000 LINES", Shop.with(s + "give y;").free(2, 8), 256);
        due("3,001 LINES", Shop.with(s + "burn y;give y;").free(2, 8), Shop.THROWS);
        due("3,001 LINES", Shop.with(s + "if 0;else;end;give y;").free(2, 8), Shop.THROWS);
        due("much fewer", Shop.with(s + "give y;").free(2, 1), 2);
        // The MACHINE has no such end.
        Shop shop = Shop.with(TREE);
        shop.begin(0, 9);
        int steps = 0;
        for (int k = 0; k < 8; k++) {
            steps += shop.slips.run(1000);
        }
        due("the MACHINE", steps, 511 * 9 + 512 * 5);
    }

    private static void freeDepth() {
        String down = "bill r;take n once;if n;let m once n-1;call r m as y;else;let y once 7;end;give y;";
        Shop shop = Shop.with(down);
        due("one", shop.free(0, 0), 7);
        due("sixteen at once", shop.free(0, 15), 7);
        due("seventeen at once", shop.free(0, 16), Shop.THROWS);
        due("for ever", shop.free(0, -1), Shop.THROWS);
        due("sixteen again", shop.free(0, 15), 7);
        shop = Shop.with("bill z;give 1;bill b;let x once 0;" + "call z as y;let x once x+y;".repeat(25) + "give x;");
        due("not at once", shop.free(1), 25);
    }

    private static void freeLeavesAll() {
        Shop shop = Shop.with("bill a;take x once;take y most;twin x as p q;let z once p+q;give z;bill b;take x once;give x+u;");
        shop.slips.room(3);
        shop.slips.price(9);
        shop.begin(0, 5, 6);
        shop.slips.run(1);
        String there = shop.all();
        due("FREE", shop.free(0, 70, 80), 140);
        due("FREE in the least room", shop.slips.room(1) ? shop.free(0, 7, 8) : 0, 14);
        shop.slips.room(3);
        due("none", shop.free(1, 70), Shop.THROWS);
        due("no such one", shop.free(2, 70), Shop.THROWS);
        shop.allIs("FREE", there);
        due("the rest", shop.slips.run(9), 2);
        due("given", shop.given(), 10);
    }

    private static void marks() {
        Shop.says("A MARK is laid (back: gone back to): true; false: none such, nothing is on it (back).");
        Shop shop = Shop.with("bill b;take a once;let c once a+1;let d once c+1;give d;");
        shop.begin(0, 5);
        for (int mark : new int[] {-1, 4, 5, 32, 33, HIGH, LOW}) {
            due("mark " + mark, shop.mark(mark, false), 0);
            due("back to " + mark, shop.mark(mark, true), 0);
        }
        for (int mark = 0; mark < 4; mark++) {
            String there = shop.all();
            for (int other = mark; other < 4; other++) {
                due("nothing is on " + other, shop.mark(other, true), 0);
            }
            shop.allIs("nothing is on it", there);
            due("mark " + mark, shop.mark(mark, false), 1);
            shop.allIs("laid", there);
            shop.slips.run(1);
        }
        // Each its own, in any order, again and again.
        int[] order = {2, 0, 3, 1, 1, 0, 2};
        for (int mark : order) {
            due("back to " + mark, shop.mark(mark, true), 1);
            due("steps", shop.slips.machine(6), mark);
            due("status", shop.slips.machine(0), mark == 3 ? 2 : 1);
            due("says", mark == 3 ? shop.given() : shop.slip(mark), 5 + Math.min(2, mark));
            shop.slips.run(3);
        }
        // Laid anew it holds what is there now, and the others what they held.
        due("back to 1", shop.mark(1, true), 1);
        due("mark 3 anew", shop.mark(3, false), 1);
        shop.slips.run(3);
        due("back to 3", shop.mark(3, true), 1);
        due("steps", shop.slips.machine(6), 1);
        due("back to 2", shop.mark(2, true), 1);
        due("steps", shop.slips.machine(6), 2);
    }

    private static void markHolds() {
        Shop.says("MARKS 0 to 3 hold the MACHINE as it is, ROOM, PRICE.");
        Shop shop = Shop.with("bill f;take p once;let q once p*2;give q;bill g;take p once;let s once 50;call f p as u;give u+s;"
                + "bill h;take p once;twin p as q r;call g q as u;give u*100+r;");
        shop.slips.room(40);
        shop.slips.price(30);
        shop.begin(2, 7);
        due("to f", shop.slips.run(5), 5);
        shop.machineIs("1 2 3 3 4 30 5 3");
        due("mark", shop.mark(2, false), 1);
        String there = shop.all();
        // Another working writes on the same table, in a smaller room and for another price.
        shop.slips.room(5);
        shop.slips.price(0);
        due("q", shop.slip(1), 14);
        due("the rest", shop.slips.run(99), 3);
        due("given", shop.given(), 6407);
        shop.begin(2, 1);
        due("to f", shop.slips.run(5), 5);
        due("back", shop.mark(2, true), 1);
        shop.allIs("back", there);
        due("ROOM", shop.slips.count(3), 40);
        due("PRICE", shop.slips.count(4), 30);
        due("the rest", shop.slips.run(99), 3);
        due("given as ahead", shop.given(), 6407);
        // What is gone back to may be changed: the mark is not.
        due("back", shop.mark(2, true), 1);
        shop.slips.run(2);
        shop.slips.room(1);
        due("back", shop.mark(2, true), 1);
        shop.allIs("back again", there);
    }

    private static void marksOfStatuses() {
        Shop shop = Shop.with("bill a;take x most;let y most 1;give 8;bill r;take n once;call r n as m;give m;");
        String[] there = new String[4];
        due("mark of nothing begun", shop.mark(0, false), 1);
        there[0] = shop.all();
        shop.slips.room(1);
        shop.begin(0, 3);
        shop.slips.run(1);
        due("FULL", shop.slips.machine(0), 3);
        due("mark of FULL", shop.mark(1, false), 1);
        there[1] = shop.all();
        shop.slips.price(0);
        shop.begin(1, 3);
        shop.slips.run(1000);
        due("TOO DEEP", shop.slips.machine(0), 4);
        due("mark of TOO DEEP", shop.mark(2, false), 1);
        there[2] = shop.all();
        shop.slips.room(99);
        shop.slips.price(99);
        shop.begin(0, 3);
        shop.slips.run(2);
        due("done", shop.slips.machine(0), 2);
        due("mark of done", shop.mark(3, false), 1);
        there[3] = shop.all();
        for (int mark : new int[] {1, 2, 0, 3, 2}) {
            due("back", shop.mark(mark, true), 1);
            shop.allIs("back to " + mark, there[mark]);
            due("it has stopped", shop.slips.run(5), 0);
        }
        due("given", shop.mark(3, true), 1);
        due("given", shop.given(), 8);
        // Each mark has what was given as it was laid.
        shop = Shop.with("bill a;take x once;give x;");
        for (int mark = 0; mark < 4; mark++) {
            shop.begin(0, 10 + mark);
            shop.slips.run(1);
            due("mark " + mark, shop.mark(mark, false), 1);
        }
        for (int mark = 0; mark < 4; mark++) {
            due("back to " + mark, shop.mark(mark, true), 1);
            due("given of " + mark, shop.given(), 10 + mark);
        }
    }
}
