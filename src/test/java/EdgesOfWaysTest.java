/** Terms 4, promises 15 to 23: what is said of WAYS, a PLAIN bill, ORDERS and coin, at its edges. */
public final class EdgesOfWaysTest {
    private static final int HIGH = Integer.MAX_VALUE;
    private static final int LOW = Integer.MIN_VALUE;
    private static final String TEN_SUMS = "let a once 1;let b most 1;let c once 1;let d most 1;let e once 1;let f once 1;"
            + "let g once 1;let h once 1;let i once 1;let j once 1;";

    public static void main(String[] args) {
        howMany();
        linesOfWays();
        waysAsked();
        reads();
        readsAsked();
        twins();
        burnings();
        taken();
        wholeWays();
        needsAsked();
        plain();
        plainAsked();
        sums();
        lyingFromTo();
        neverRead();
        fewest();
        firstOrder();
        orderAsked();
        asTold();
        orders();
        notAsked();
        cheapest();
        cheapestOfMany();
        cheapestAsked();
        Shop.finish("EdgesOfWaysTest");
    }

    private static void due(String what, long got, long want) {
        Shop.due(what, got, want);
    }

    private static void ways(String lines, int howMany, int longest, int shortest) {
        Shop shop = Shop.with("bill b;" + lines);
        due("WAYS of " + lines, shop.slips.ways(0, 0), howMany);
        due("longest of " + lines, shop.slips.ways(0, 1), longest);
        due("shortest of " + lines, shop.slips.ways(0, 2), shortest);
    }

    private static void howMany() {
        Shop.says("WAYS through a bill: by each if both branches (calls are one LINE).");
        String one = "if 1;else;end;";
        String two = "if 1;" + one + "else;" + one + "end;";
        String three = "if 1;" + two + "else;" + two + "end;";
        ways("give 1;", 1, 1, 1);
        ways(one + "give 1;", 2, 3, 3);
        ways(one + one + "give 1;", 4, 5, 5);
        // By the whole bill, whatever its test comes to.
        ways("if 0;let a most 1;else;end;give 1;", 2, 4, 3);
        ways("if 1;let a most 1;else;end;give 1;", 2, 4, 3);
        ways("if 1;" + one + "else;end;give 1;", 3, 5, 3);
        ways("if 1;else;" + one + "end;give 1;", 3, 5, 3);
        ways(two + "give 1;", 4, 5, 5);
        ways("if 1;" + one + one + "else;" + one + "end;give 1;", 6, 7, 5);
        ways(three + "give 1;", 8, 7, 7);
        ways("if 1;if 1;if 1;burn a;else;end;else;end;else;end;give 1;", 4, 8, 3);
        ways("if 1;else;if 1;else;if 1;else;burn a;end;end;end;give 1;", 4, 8, 3);
        ways(three + one + "give 1;", 16, 9, 9);
        // The most that sixty LINES have room for.
        ways(one.repeat(19) + "give 1;", 524288, 39, 39);
        // A call is one LINE, however many WAYS there are through what it calls.
        Shop shop = Shop.with("bill f;" + two + one + "burn a;give 1;bill b;call f as x;" + one + "call b as y;give 1;");
        due("ways of f", shop.slips.ways(0, 0), 8);
        due("longest of f", shop.slips.ways(0, 1), 8);
        due("ways of b", shop.slips.ways(1, 0), 2);
        due("longest of b", shop.slips.ways(1, 1), 5);
        due("shortest of b", shop.slips.ways(1, 2), 5);
        // What stands behind its give is another bill's.
        shop = Shop.with("bill a;if 1;else;end;give 1;bill b;if 1;burn a;else;end;" + one + "give 1;bill c;take x once;give 1;");
        int[][] want = {{2, 3, 3}, {4, 6, 5}, {1, 1, 1}};
        for (int bill = 0; bill < 3; bill++) {
            for (int what = 0; what < 3; what++) {
                due("ways of " + bill + " what " + what, shop.slips.ways(bill, what), want[bill][what]);
            }
        }
    }

    private static void linesOfWays() {
        Shop.says("1: LINES (but for take; of else and end the one that the MACHINE works) of the longest one, 2: of the shortest;");
        ways("take a once;take c once;take d once;take e once;give 1;", 1, 1, 1);
        ways("take a once;let c once 1;give 1;", 1, 2, 2);
        ways("burn a;".repeat(59) + "give 1;", 1, 60, 60);
        ways("if 1;burn a;burn b;else;end;give 1;", 2, 5, 3);
        ways("if 1;else;burn a;burn b;end;give 1;", 2, 5, 3);
        ways("if 1;burn a;else;burn b;end;give 1;", 2, 4, 4);
        ways("if 1;burn a;else;end;if 1;else;burn b;burn b;end;give 1;", 4, 8, 5);
        ways("if 1;if 1;burn a;burn a;else;end;else;burn a;end;give 1;", 3, 7, 4);
        ways("if 1;" + "burn a;".repeat(55) + "else;end;give 1;", 2, 58, 3);
        ways("if 1;else;" + "burn a;".repeat(55) + "end;burn b;give 1;", 2, 59, 4);
        // The MACHINE works so many.
        Shop shop = Shop.with("bill b;take n most;if n;let x most 1;let y most 1;else;end;give 1;");
        shop.begin(0, 1);
        due("the longest", shop.slips.run(99), shop.slips.ways(0, 1));
        shop.begin(0, 0);
        due("the shortest", shop.slips.run(99), shop.slips.ways(0, 2));
    }

    private static void waysAsked() {
        Shop.says("WAYS through a bill, what 0: how many,");
        Shop shop = Shop.with("bill a;give 1;bill b;if 1;else;end;give 1;");
        Shop.says("of the longest one, 2: of the shortest; NONE: others.");
        due("of 0", shop.slips.ways(0, 0), 1);
        due("of 1", shop.slips.ways(1, 0), 2);
        for (int what : new int[] {-1, 3, HIGH, LOW}) {
            due("what " + what, shop.slips.ways(0, what), -1);
            due("what " + what, shop.slips.ways(1, what), -1);
        }
        for (int bill : new int[] {-1, 2, 3, 4, HIGH, LOW}) {
            for (int what = -1; what <= 3; what++) {
                due("bill " + bill, shop.slips.ways(bill, what), -1);
            }
        }
    }

    private static void read(String lines, int slip, int least, int most) {
        Shop shop = Shop.with("bill f;take p once;take q once;give 1;bill b;" + lines);
        due("least reads of " + slip + " in " + lines, shop.slips.reads(1, slip, 0), least);
        due("most reads of " + slip + " in " + lines, shop.slips.reads(1, slip, 1), most);
    }

    private static void reads() {
        Shop.says("By a WAY with free use a SLIP is LAID so often and READ so often.");
        read("take a once;give 1;", 0, 0, 0);
        read("take a once;give a;", 0, 1, 1);
        read("give a+a*(not a);", 0, 3, 3);
        read("let a once a;give 1;", 0, 1, 1);
        read("twin a as a a;give 1;", 0, 1, 1);
        read("burn a;burn a;give 1;", 0, 2, 2);
        read("call f a a as a;give 1;", 0, 2, 2);
        read("if a;else;end;give 1;", 0, 1, 1);
        read("if 1;burn a;else;end;give 1;", 0, 0, 1);
        read("if 1;else;burn a;end;give 1;", 0, 0, 1);
        read("if 1;burn a;else;burn a;end;give 1;", 0, 1, 1);
        read("if a;burn a;else;burn a;burn a;end;give a;", 0, 3, 4);
        read("if 1;burn a;else;end;if 1;burn a;burn a;else;burn a;end;give 1;", 0, 1, 3);
        read("if 1;if 1;burn a;else;end;else;burn a;burn a;burn a;end;give 1;", 0, 0, 3);
        read("burn a;burn b;burn a;give b+c;", 1, 2, 2);
        read("burn a;burn b;burn a;give b+c;", 2, 1, 1);
        // Those of a bill that is called are its own.
        Shop shop = Shop.with("bill f;take p once;give p+p+p;bill b;take p once;call f p as q;give q;");
        due("by call", shop.slips.reads(1, 0, 1), 1);
        due("its own", shop.slips.reads(0, 0, 1), 3);
        // As often as there is room for.
        due("490 times", Shop.with("bill b;give a" + "+a".repeat(489) + ";").slips.reads(0, 0, 0), 490);
    }

    private static void readsAsked() {
        Shop.says("How often a SLIP is READ by WAYS, what 0: the least, 1: the most; NONE: others.");
        Shop shop = Shop.with("bill a;give 1;bill b;give a+b+c;bill d;let a once 1;let b once 1;let c once 1;let d once 1;"
                + "let e once 1;let f once 1;let g once 1;let h once 1;let i once 1;let j once 1;give j+j;");
        int[] slips = {0, 3, 10};
        for (int bill = 0; bill < 3; bill++) {
            for (int slip : new int[] {-1, slips[bill], slips[bill] + 1, 11, HIGH, LOW}) {
                due("slip " + slip + " of " + bill, shop.slips.reads(bill, slip, 0), -1);
                due("slip " + slip + " of " + bill, shop.slips.reads(bill, slip, 1), -1);
            }
            for (int slip = 0; slip < slips[bill]; slip++) {
                int want = bill == 1 ? 1 : slip == 9 ? 2 : 0;
                due("slip " + slip + " of " + bill, shop.slips.reads(bill, slip, 0), want);
                for (int what : new int[] {-1, 2, HIGH, LOW}) {
                    due("what " + what, shop.slips.reads(bill, slip, what), -1);
                }
            }
        }
        for (int bill : new int[] {-1, 3, 4, HIGH, LOW}) {
            due("bill " + bill, shop.slips.reads(bill, 0, 0), -1);
            due("bill " + bill, shop.slips.reads(bill, 0, 1), -1);
        }
    }

    /** Fewest and most TWINS, fewest and most BURNINGS. */
    private static void needs(String lines, int... want) {
        Shop shop = Shop.with("bill z;give 1;bill y;take p once;give p;bill b;" + lines);
        for (int what = 0; what < 4; what++) {
            due("need " + what + " of " + lines, shop.slips.needs(2, what), want[what]);
        }
    }

    private static void twins() {
        Shop.says("TWINS that a WAY needs: for each SLIP what it is read above what it is laid, 0 at least;");
        needs("give 1;", 0, 0, 0, 0);
        needs("let a most 1;give 1;", 0, 0, 0, 0);
        needs("let a most 1;give a;", 0, 0, 0, 0);
        needs("let a most 1;give a+a;", 1, 1, 0, 0);
        needs("let a most 1;let a most 1;give a+a;", 0, 0, 0, 0);
        needs("let a most 1;let a most 1;give a+a+a;", 1, 1, 0, 0);
        needs("give a;", 1, 1, 0, 0);
        // What one SLIP has too much does not help another.
        needs("let a most 1;let a most 1;let a most 1;give b+b;", 2, 2, 0, 0);
        needs("let a most 1;give a+a+b+b+c;", 4, 4, 0, 0);
        needs("let a most 1;twin a as b c;give a+b+c;", 1, 1, 0, 0);
        needs("let a most 1;twin a as b c;give b+b+b+c;", 2, 2, 0, 0);
        needs("let a most 1;twin a as b b;give b+b+b;", 1, 1, 0, 0);
        needs("let a most 1;call y a as b;give a+b+b;", 2, 2, 0, 0);
        needs("let a most 1;burn a;burn a;burn a;give 1;", 2, 2, 0, 0);
        needs("let a most 1;if a;else;end;give a;", 1, 1, 0, 0);
        needs("let a most a;give 1;", 0, 0, 0, 0);
        needs("if 1;burn a;else;end;give 1;", 0, 1, 0, 0);
        needs("if 1;else;burn a;burn a;end;give a;", 1, 3, 0, 0);
    }

    private static void burnings() {
        Shop.says("BURNINGS: for each that is laid as once somewhere in the bill (by take, let, as)"
                + " what it is laid above what it is read, 0 at least.");
        needs("take a once;give 1;", 0, 0, 1, 1);
        needs("take a most;give 1;", 0, 0, 0, 0);
        needs("let a once 1;give 1;", 0, 0, 1, 1);
        needs("let a most 1;give 1;", 0, 0, 0, 0);
        needs("call z as a;give 1;", 0, 0, 1, 1);
        needs("let c most 1;twin c as a b;give b;", 0, 0, 1, 1);
        needs("let c most 1;twin c as a b;give a;", 0, 0, 1, 1);
        needs("let c most 1;twin c as a b;give 1;", 0, 0, 2, 2);
        needs("let c most 1;twin c as a a;give 1;", 0, 0, 2, 2);
        needs("let c most 1;twin c as a b;give a+b;", 0, 0, 0, 0);
        needs("take a once;give a;", 0, 0, 0, 0);
        needs("take a once;give a+a;", 1, 1, 0, 0);
        needs("take a once;take b once;give a+a;", 1, 1, 1, 1);
        needs("let a once 1;let a once 1;let a once 1;give a;", 0, 0, 2, 2);
        // Once somewhere is enough, ahead or behind, or in the other branch; of most everywhere is not.
        needs("let a once 1;let a most 1;give 1;", 0, 0, 2, 2);
        needs("let a most 1;let a once 1;give 1;", 0, 0, 2, 2);
        needs("take a most;let a once 1;give 1;", 0, 0, 2, 2);
        needs("take a most;let a most 1;give 1;", 0, 0, 0, 0);
        needs("take a most;twin a as a b;give b;", 0, 0, 1, 1);
        needs("let a most 1;if 1;let a once 1;else;end;give 1;", 0, 0, 1, 2);
        needs("if 1;let a most 1;else;let a once 1;burn a;end;give 1;", 0, 0, 0, 1);
        needs("if 1;let a most 1;else;call z as a;end;give 1;", 0, 0, 1, 1);
        // Another bill's KIND is not this one's.
        Shop shop = Shop.with("bill c;let a once 1;give 1;bill d;let a most 1;give 1;");
        due("of once", shop.slips.needs(0, 2), 1);
        due("of most", shop.slips.needs(1, 2), 0);
        due("of once again", shop.slips.needs(0, 3), 1);
        shop = Shop.with("bill c;let a most 1;give 1;bill d;take a once;let b once 1;give 1;");
        due("of most, ahead of once", shop.slips.needs(0, 3), 0);
        due("of once, behind most", shop.slips.needs(1, 2), 2);
    }

    private static void taken() {
        Shop.says("What a bill takes is laid at its beginning.");
        needs("take a once;take b once;take c most;take d once;give 1;", 0, 0, 3, 3);
        needs("take a once;take b once;take c most;take d once;give a+b+c+d;", 0, 0, 0, 0);
        needs("take a once;take b once;take c most;take d once;give a+b+c+d+c;", 1, 1, 0, 0);
        needs("take a once;if 1;burn a;else;end;give 1;", 0, 0, 0, 1);
    }

    private static void wholeWays() {
        Shop.says("What WAYS need, what 0, 1: TWINS of the way with the fewest, the most; 2, 3: BURNINGS likewise; NONE: others.");
        // Of two ifs that belong together by nothing but what they read and lay: each of four WAYS counts.
        needs("if 1;burn a;else;burn c;end;if 1;let a once 1;else;let c once 1;end;give 0;", 0, 1, 0, 1);
        needs("take a once;if 1;burn a;else;end;if 1;burn a;else;end;give 1;", 0, 1, 0, 1);
        needs("take a once;if 1;burn a;burn a;else;end;if 1;let a once 1;let a once 1;else;end;give 1;", 0, 1, 0, 3);
        needs("if 1;let a once 1;let b once 1;else;end;if 1;burn a;else;burn b;burn b;burn b;end;give 1;", 0, 3, 0, 1);
        needs("take a once;if 1;if 1;burn a;burn a;else;end;else;if 1;burn a;else;if 1;burn a;burn a;burn a;else;end;end;end;give 1;",
                0, 2, 0, 1);
        // Branches alike in what they lack, and unlike.
        needs("take a once;if 1;burn a;else;burn a;end;if 1;burn a;else;end;give 1;", 0, 1, 0, 0);
        needs("take a once;if 1;let b once a;else;twin a as b c;burn c;end;give b;", 0, 0, 0, 0);
        needs("take a once;if 1;if 1;burn a;else;burn a;end;else;if 1;burn b;else;burn b;end;end;give 1;", 0, 1, 0, 1);
        needs("if 1;if 1;burn a;else;end;else;if 1;burn a;else;end;end;give 1;", 0, 1, 0, 0);
        needs("if 1;let x once 1;burn x;else;end;if 1;else;let x once 1;end;give 1;", 0, 0, 0, 1);
        // Unlike though they lack as much together, or one of them so many times what the other does.
        needs("if 1;let a once 1;else;burn a;end;give 1;", 0, 1, 0, 1);
        needs("if 1;burn a;else;let a once 1;end;give 1;", 0, 1, 0, 1);
        needs("if 1;burn a;burn a;else;burn a;end;give 1;", 1, 2, 0, 0);
        needs("if 1;burn a;else;burn a;burn a;end;give 1;", 1, 2, 0, 0);
        needs("take a once;if a;else;burn a;end;give 1;", 0, 1, 0, 0);
        needs("take a once;if a;burn a;else;end;give 1;", 0, 1, 0, 0);
        needs("if 1;burn a;else;if 1;burn a;else;end;end;give 1;", 0, 1, 0, 0);
        needs("if 1;if 1;burn a;else;burn a;end;else;burn a;burn a;end;give 1;", 1, 2, 0, 0);
        needs("if 1;burn a;burn a;else;if 1;burn a;else;burn a;end;end;give 1;", 1, 2, 0, 0);
        needs("if 1;burn a;burn b;else;burn a;burn a;end;give 1;", 2, 2, 0, 0);
        needs("let a once 1;if 1;burn a;burn b;else;burn a;burn a;end;give 1;", 1, 1, 0, 0);
        // As many unlike branches as sixty LINES have room for.
        needs("if 1;burn a;else;end;".repeat(13) + "give 1;", 0, 13, 0, 0);
        needs("if 1;let a once 1;else;end;".repeat(7) + "if 1;burn a;else;end;".repeat(6) + "give 1;", 0, 6, 0, 7);
        needs("if 1;let a once 1;else;let a once 1;end;".repeat(11) + "give 1;", 0, 0, 11, 11);
    }

    private static void needsAsked() {
        Shop shop = Shop.with("bill a;take x once;give 1;bill b;give x+x;");
        int[][] want = {{0, 0, 1, 1}, {2, 2, 0, 0}};
        for (int round = 0; round < 2; round++) {
            for (int bill = 0; bill < 2; bill++) {
                for (int what = 0; what < 4; what++) {
                    due("need " + what + " of " + bill, shop.slips.needs(bill, what), want[bill][what]);
                }
                for (int what : new int[] {-1, 4, HIGH, LOW}) {
                    due("need " + what, shop.slips.needs(bill, what), -1);
                }
            }
            for (int bill : new int[] {-1, 2, 3, 4, HIGH, LOW}) {
                for (int what = -1; what <= 4; what++) {
                    due("needs of " + bill, shop.slips.needs(bill, what), -1);
                }
            }
        }
        // Asked about BILLS that were told later under the same number.
        due("asked last", shop.slips.needs(0, 3), 1);
        due("told", shop.tell("bill a;take x once;take y once;give 1;"), 0);
        due("of the new one", shop.slips.needs(0, 3), 2);
        due("a FAULT", shop.tell("bill a;give"), 1 + 16 * 11);
        due("of the same one", shop.slips.needs(0, 2), 2);
    }

    private static void isPlain(String lines, int want) {
        Shop shop = Shop.with("wall w 5;bill z;give 1;bill b;" + lines);
        due("PLAIN: " + lines, shop.slips.plain(1), want);
        due("asked about: " + lines, shop.slips.fewest(1) >= 0 ? 1 : 0, want);
    }

    private static void plain() {
        Shop.says("A PLAIN bill has no if, call, twin, burn, lays each SLIP once, and reads only SLIPS laid ahead.");
        isPlain("give 1;", 1);
        isPlain("give w;", 1);
        isPlain("take a once;take b most;give a+a+b;", 1);
        isPlain("take a once;let b most a+w;let c once b*b*a;give c+c;", 1);
        isPlain("take a once;if a;else;end;give 1;", 0);
        isPlain("if 1;let a once 1;else;end;give 1;", 0);
        isPlain("call z as x;give x;", 0);
        isPlain("take a once;twin a as b c;give b+c;", 0);
        isPlain("take a once;burn a;give 1;", 0);
        isPlain("burn a;give 1;", 0);
        isPlain("let a once 1;let a once 2;give a;", 0);
        isPlain("take a once;let a once a;give a;", 0);
        isPlain("take a once;let a once 1;give 1;", 0);
        isPlain("let a once a;give a;", 0);
        isPlain("let a once b;let b once 1;give a;", 0);
        isPlain("let a once 1;let b once a+c;let c once 1;give b;", 0);
        isPlain("give a;", 0);
        isPlain("take a once;give a+b;", 0);
        isPlain("let a once 1;give b;", 0);
        // It need not pass; what another bill is does not matter.
        isPlain("take a once;take b once;give 1;", 1);
        Shop shop = Shop.with("bill a;burn x;give 1;bill b;let x once 1;give x;bill c;give x;");
        due("a", shop.slips.plain(0), 0);
        due("b", shop.slips.plain(1), 1);
        due("c reads no SLIP of b", shop.slips.plain(2), 0);
    }

    private static void plainAsked() {
        Shop.says("Whether a bill is PLAIN: 1 or 0; NONE: no such one.");
        Shop shop = Shop.with("bill a;give 1;bill b;give x;");
        due("first", shop.slips.plain(0), 1);
        due("last", shop.slips.plain(1), 0);
        for (int bill : new int[] {-1, 2, 3, 4, HIGH, LOW}) {
            due("plain of " + bill, shop.slips.plain(bill), -1);
        }
    }

    /** Of a PLAIN bill: FEWEST, as told, its first ORDER, and ORDERS in a table of 0 and more (the last holds on to 20). */
    private static void ordered(String lines, int fewest, int asTold, String order, long... upTo) {
        Shop shop = Shop.with("bill b;" + lines);
        due("FEWEST of " + lines, shop.slips.fewest(0), fewest);
        due("as told, " + lines, shop.slips.asTold(0), asTold);
        for (int k = 0; k < order.length(); k++) {
            due("order " + k + " of " + lines, shop.slips.order(0, k), order.charAt(k) - '0');
        }
        due("behind the last of " + lines, shop.slips.order(0, order.length()), -1);
        due("ahead of the first of " + lines, shop.slips.order(0, -1), -1);
        for (int slips = 0; slips <= 20; slips++) {
            long want = upTo[Math.min(slips, upTo.length - 1)];
            due("orders " + slips + " of " + lines, shop.slips.orders(0, slips), want);
        }
        due("orders -1", shop.slips.orders(0, -1), -1);
        due("orders 21", shop.slips.orders(0, 21), -1);
    }

    private static void sums() {
        Shop.says("Its SUMS are its let's, 12 at most asked about.");
        ordered("give 1;", 0, 0, "", 1);
        ordered("take a once;give 1;", 0, 0, "", 1);
        ordered("take a once;take b once;take c once;take d once;give a;", 1, 1, "", 0, 1);
        ordered("let a once 1;give 1;", 0, 0, "0", 1);
        // Each SUM of a PLAIN bill lays a SLIP of its own, so ten are the most.
        long all = 3628800;
        ordered(TEN_SUMS + "give 1;", 0, 0, "0123456789", all);
        ordered(TEN_SUMS + "give a+b+c+d+e+f+g+h+i+j;", 10, 10, "0123456789", 0, 0, 0, 0, 0, 0, 0, 0, 0, 0, all);
        ordered("let a once 1;let b once a;let c once b;let d once c;let e once d;let f once e;let g once f;let h once g;"
                + "let i once h;let j once i;give j;", 1, 1, "0123456789", 0, 1);
        ordered("take a once;take b once;take c once;take d once;let e once a;let f once b;let g once c;let h once d;"
                + "let i once e;let j once f;give g+h+i+j;", 4, 4, "012345", 0, 0, 0, 0, 180);
    }

    private static void lyingFromTo() {
        Shop.says("In any ORDER in which each SUM comes behind those that it reads: a number that is read again later is written anew"
                + " for the table when it is read, so it lies there as one SLIP from when it is laid to when it is last read"
                + " (what it takes: from the beginning; what give reads: to the end; what is never read: not at all).");
        ordered("let a once 1;give a;", 1, 1, "0", 0, 1);
        ordered("let a once 1;give a+a+a;", 1, 1, "0", 0, 1);
        ordered("let a once 1;let b once a;give b;", 1, 1, "01", 0, 1);
        // Read again by give it lies there beside b; read twice in one SUM it is one SLIP.
        ordered("let a once 1;let b once a;give a+b;", 2, 2, "01", 0, 0, 1);
        ordered("let a once 1;let b once a+a+a;give b;", 1, 1, "01", 0, 1);
        // From the beginning: both, though b is read last; to the end: though a is read first.
        ordered("take a once;take b once;let c once a;let d once b+c;give d;", 2, 2, "01", 0, 0, 1);
        ordered("take a once;let b once a;let c once 2;let d once 3;give a+c+d;", 3, 3, "012", 0, 0, 0, 6);
        ordered("take a once;take b once;take c once;take d once;let e once a+b+c+d;give e;", 4, 4, "0", 0, 0, 0, 0, 1);
        ordered("take a once;let b once a;let c once a;let d once b+c;give d;", 2, 2, "012", 0, 0, 2);
        // Behind a SUM that reads the last of a SLIP it lies there no more.
        ordered("let a once 1;let b once 2;let c once a+b;give c;", 2, 2, "012", 0, 0, 2);
    }

    private static void neverRead() {
        ordered("take a once;take b once;let c once a;give c;", 1, 1, "0", 0, 1);
        ordered("let a once 1;let b once a;let c once 5;give 1;", 1, 1, "012", 0, 3);
        ordered("take a once;let b once a;give 1;", 1, 1, "0", 0, 1);
        ordered("let a once 1;let b once 2;give a;", 1, 1, "01", 0, 2);
    }

    private static void fewest() {
        Shop.says("FEWEST: the least greatest number of SLIPS on the table (at the beginning, and behind each SUM),"
                + " and the first ORDER for it (numbers of SUMS from 0, the least first).");
        // The greatest at the beginning, in the middle, at the end.
        ordered("take a once;take b once;take c once;let d once a+b;let e once c+d;give e;", 3, 3, "01", 0, 0, 0, 1);
        ordered("let a once 1;let b once 2;let c once 3;let d once a+b+c;give d;", 3, 3, "0123", 0, 0, 0, 6);
        ordered("let a once 1;let b once a;let c once b;give a+b+c;", 3, 3, "012", 0, 0, 0, 1);
        // Told badly: all that is read first, then what reads it.
        ordered("let a once 1;let b once 2;let c once 3;let d once a+b;let e once c+d;give e;", 2, 3, "01324", 0, 0, 2, 8);
        ordered("let a once 1;let b once 2;let c once 3;let d once c;let e once d;let f once e+b;let g once f+a;give g;",
                2, 3, "1234506", 0, 0, 4, 24);
        Shop.says("FEWEST; NONE: no such bill, not PLAIN, more than 12 SUMS.");
        due("no such bill", new BurningSlips().fewest(0), -1);
    }

    private static void firstOrder() {
        // Many ORDERS are as good: the least number that may come first, then the next.
        ordered("let a once 1;let b once 2;let c once a;let d once b;give c+d;", 2, 2, "0123", 0, 0, 6);
        ordered("let a once 1;let b once 1;let c once b;let d once b;let e once a+c+d;give e;", 3, 3, "01234", 0, 0, 0, 8);
        // 0 first is no good; 1 is, then 0 only behind what reads 1.
        ordered("let a once 1;let b once 2;let c once 3;let d once b*c;let e once a+d;give e;", 2, 3, "12304", 0, 0, 2, 8);
        ordered("take x once;let a once 1;let b once x;let c once b;give a+c;", 2, 2, "012", 0, 0, 3);
        Shop.says("The i-th SUM (from 0) of the first ORDER for it; NONE: likewise, none such.");
        Shop shop = Shop.with("bill b;" + TEN_SUMS + "give 1;");
        for (int i = 0; i < 10; i++) {
            due("order " + i, shop.slips.order(0, i), i);
        }
        for (int i : new int[] {-1, 10, 11, 12, 13, HIGH, LOW}) {
            due("order " + i, shop.slips.order(0, i), -1);
        }
    }

    private static void orderAsked() {
        Shop shop = Shop.with("bill a;give 1;bill b;let x once 1;give x;bill c;let x once 1;let y once 1;give y;");
        for (int bill = 0; bill < 3; bill++) {
            for (int i = -1; i <= 3; i++) {
                due("order " + i + " of " + bill, shop.slips.order(bill, i), i >= 0 && i < bill ? i : -1);
            }
        }
        // Asked by turns, each its own.
        int[] turns = {1, 0, 2, 0, 1, 2, 2};
        for (int bill : turns) {
            due("FEWEST of " + bill, shop.slips.fewest(bill), bill == 0 ? 0 : 1);
            due("ORDERS of " + bill, shop.slips.orders(bill, 20), Math.max(1, bill));
        }
        shop = Shop.with("bill a;" + TEN_SUMS + "give a+b+c+d+e+f+g+h+i+j;bill b;let x once 1;let y once 2;give 1;"
                + "bill c;let x once 1;let y once x;give x+y;");
        for (int round = 0; round < 2; round++) {
            due("ORDERS of ten", shop.slips.orders(0, 20), 3628800);
            due("FEWEST of ten", shop.slips.fewest(0), 10);
            due("ORDERS of two", shop.slips.orders(1, 20), 2);
            due("FEWEST of two", shop.slips.fewest(1), 0);
            due("ORDERS of two in a row", shop.slips.orders(2, 20), 1);
            due("FEWEST of two in a row", shop.slips.fewest(2), 2);
            due("FEWEST of two that are not read", shop.slips.fewest(1), 0);
            due("cheapest of two in a row", shop.slips.cheapest(2, 3, 4), 11);
            due("cheapest of two that are not read", shop.slips.cheapest(1, 3, 4), 8);
        }
    }

    private static void asTold() {
        Shop.says("The greatest number of SLIPS on the table in the ORDER in which the SUMS stand; NONE: likewise.");
        ordered("let a once 1;let b once 2;let c once 3;let d once 4;let e once c+d;let f once b+e;let g once a+f;give g;",
                2, 4, "2341506", 0, 0, 2, 24, 48);
        // The same ones told in the best order.
        ordered("let a once 1;let b once 2;let c once a+b;let d once 3;let e once c+d;let f once 4;let g once e+f;give g;",
                2, 2, "0123456", 0, 0, 2, 24, 48);
    }

    private static void orders() {
        Shop.says("In how many ORDERS no more than so many SLIPS (0 to 20) are on the table; NONE: others, likewise.");
        Shop shop = Shop.with("bill b;let a once 1;let c once 2;give a+c;");
        long[] want = {0, 0, 2, 2};
        for (int slips = 0; slips < 4; slips++) {
            due("orders " + slips, shop.slips.orders(0, slips), want[slips]);
        }
        due("orders 20", shop.slips.orders(0, 20), 2);
        for (int slips : new int[] {-1, 21, HIGH, LOW}) {
            due("orders " + slips, shop.slips.orders(0, slips), -1);
        }
    }

    private static void notAsked() {
        Shop.says("NONE: likewise.");
        Shop shop = Shop.with("bill a;let x once 1;give x+x;bill b;burn x;give 1;bill c;let x once 1;let x once 2;give x;");
        for (int bill : new int[] {-1, 1, 2, 3, 4, HIGH, LOW}) {
            due("fewest of " + bill, shop.slips.fewest(bill), -1);
            due("order of " + bill, shop.slips.order(bill, 0), -1);
            due("asTold of " + bill, shop.slips.asTold(bill), -1);
            due("orders of " + bill, shop.slips.orders(bill, 20), -1);
            due("cheapest of " + bill, shop.slips.cheapest(bill, 3, 2), -1);
        }
        due("fewest of a", shop.slips.fewest(0), 1);
        due("told", shop.tell("bill a;let x once 1;let y once 2;give x+y;"), 0);
        due("fewest of the new one", shop.slips.fewest(0), 2);
        due("cheapest of the new one", shop.slips.cheapest(0, 3, 2), 4);
        due("a FAULT", shop.tell("bill a;give 1;;"), 1 + 16 * 14);
        due("fewest of the same one", shop.slips.fewest(0), 2);
        due("told", shop.tell("bill a;burn x;give 1;"), 0);
        due("no more PLAIN", shop.slips.fewest(0), -1);
    }

    private static void cheap(String lines, int writing, int reckoning, long want) {
        due("cheapest " + writing + " " + reckoning + " of " + lines,
                Shop.with("bill b;" + lines).slips.cheapest(0, writing, reckoning), want);
    }

    private static void cheapest() {
        Shop.says("CHEAPEST: each SUM is reckoned once or more, for so much coin each time, each time from SLIPS of its own"
                + " for each time a NAME stands in its E; a number in hand (reckoned, or what it takes) is written once for nothing,"
                + " each time more for so much coin; give reads likewise.");
        cheap("give 1;", 99, 99, 0);
        cheap("take a once;give a;", 99, 99, 0);
        cheap("take a once;give a+a;", 99, 99, 99);
        cheap("take a once;give a+a;", 0, 99, 0);
        cheap("let a once 1;give a;", 99, 99, 99);
        cheap("let a once 1;give a;", 99, 0, 0);
        // The one more: written or reckoned, whichever is less; as much is as good.
        cheap("let a once 1;give a+a;", 5, 4, 8);
        cheap("let a once 1;give a+a;", 4, 4, 8);
        cheap("let a once 1;give a+a;", 3, 4, 7);
        cheap("let a once 1;give a+a;", 99, 99, 198);
        cheap("let a once 1;give a+a;", 99, 98, 196);
        cheap("let a once 1;give a+a+a+a;", 1, 99, 102);
        cheap("let a once 1;give a+a+a+a;", 99, 1, 4);
        // Once in a SUM, once in give: two SLIPS of it.
        cheap("take a once;let b once a;give a+b;", 7, 4, 11);
        cheap("let a once 1;let b once a;give a+b;", 7, 4, 12);
        cheap("let a once 1;let b once a*a*a;give b;", 3, 4, 14);
        // To reckon b again costs its own reckoning and what it reads again.
        cheap("let a once 1;let b once a;give b+b;", 9, 4, 16);
        cheap("let a once 1;let b once a;give b+b;", 8, 4, 16);
        cheap("let a once 1;let b once a;give b+b;", 7, 4, 15);
        cheap("take a once;let b once a;give b+b;", 9, 0, 9);
        cheap("let a once 1;let b once a*a;give b+b;", 9, 3, 18);
        cheap("let a once 1;let b once a*a;give b+b;", 8, 3, 17);
        cheap("let a once 1;let b once a;let c once b;give c+c;", 12, 4, 24);
        cheap("let a once 1;let b once a;let c once b;give c+c;", 11, 4, 23);
        Shop.says("The least coin (a SUM that nothing reads is reckoned once).");
        cheap("let a once 1;give 1;", 99, 7, 7);
        cheap("let a once 1;let b once a;give 1;", 99, 7, 14);
        cheap("let a once 1;let b once a;let c once a;give 1;", 99, 7, 28);
        cheap("take a once;let b once a;let c once a;give 1;", 9, 7, 23);
        cheap("take a once;take b once;give 1;", 9, 9, 0);
    }

    private static void cheapestOfMany() {
        cheap(TEN_SUMS + "give 1;", 99, 99, 990);
        cheap(TEN_SUMS + "give a+b+c+d+e+f+g+h+i+j;", 99, 99, 990);
        cheap(TEN_SUMS + "give a+b+c+d+e+f+g+h+i+j+j;", 99, 98, 1078);
        cheap("take a once;give a" + "+a".repeat(480) + ";", 99, 99, 480 * 99);
        cheap("let a once 1;give a" + "+a".repeat(480) + ";", 99, 98, 481 * 98);
        cheap("let a once 1;give a" + "+a".repeat(480) + ";", 98, 99, 99 + 480 * 98);
        // Each SUM reads the one ahead forty times: what is reckoned again would cost 40 to the ninth.
        StringBuilder text = new StringBuilder("take a once;");
        for (char name = 'b'; name <= 'j'; name++) {
            char before = (char) (name - 1);
            text.append("let ").append(name).append(" once ").append((before + "+").repeat(39)).append(before).append(';');
        }
        cheap(text + "give j+j;", 99, 0, (9 * 39 + 1) * 99);
        cheap(text + "give j+j;", 0, 99, 9 * 99);
    }

    private static void cheapestAsked() {
        Shop.says("CHEAPEST by a coin (0 to 99) for each writing more, one for each reckoning; NONE: others, not PLAIN.");
        Shop shop = Shop.with("bill b;let a once 1;give a+a;bill c;burn a;give 1;");
        int[] others = {-1, 100, 101, HIGH, LOW};
        for (int other : others) {
            due("writing " + other, shop.slips.cheapest(0, other, 5), -1);
            due("reckoning " + other, shop.slips.cheapest(0, 5, other), -1);
            due("both " + other, shop.slips.cheapest(0, other, other), -1);
        }
        due("0 0", shop.slips.cheapest(0, 0, 0), 0);
        due("0 99", shop.slips.cheapest(0, 0, 99), 99);
        due("99 0", shop.slips.cheapest(0, 99, 0), 0);
        due("99 99", shop.slips.cheapest(0, 99, 99), 198);
        due("not PLAIN", shop.slips.cheapest(1, 5, 5), -1);
        for (int bill : new int[] {-1, 2, 4, HIGH, LOW}) {
            due("bill " + bill, shop.slips.cheapest(bill, 5, 5), -1);
        }
    }
}
