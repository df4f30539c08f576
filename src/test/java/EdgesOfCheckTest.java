/** Terms 2, promises 4 to 6: what is said of CHECK, of a bill and of a LINE, at its edges. */
public final class EdgesOfCheckTest {
    private static final int HIGH = Integer.MAX_VALUE;
    private static final int LOW = Integer.MIN_VALUE;

    public static void main(String[] args) {
        onTheTable();
        readingTakesAway();
        layingLays();
        notThere();
        thereAlready();
        branches();
        leastSlip();
        branchesInOneAnother();
        gone();
        leftOver();
        firstOfAll();
        lastLine();
        passes();
        sound();
        billAsked();
        lineAsked();
        lineReads();
        checkAsked();
        Shop.finish("EdgesOfCheckTest");
    }

    private static void due(String what, long got, long want) {
        Shop.due(what, got, want);
    }

    /** What CHECK tells of a bill with these LINES that has one bill of one LINE ahead of it. */
    private static void checked(String lines, int wrong, int line, int slip) {
        Shop shop = Shop.with("bill z;give 1;bill b;" + lines);
        due("CHECK of " + lines, shop.slips.check(1, 0), wrong);
        due("LINE of " + lines, shop.slips.check(1, 1), line);
        due("SLIP of " + lines, shop.slips.check(1, 2), slip);
        due("passes: " + lines, shop.slips.bill(1, 4), wrong == 0 ? 1 : 0);
        due("SOUND: " + lines, shop.slips.bill(1, 5), wrong == 0 ? 1 : 0);
    }

    private static void good(String lines) {
        checked(lines, 0, -1, -1);
    }

    private static void onTheTable() {
        Shop.says("CHECK of a bill, LINE by LINE as they stand: on the table are what it takes;");
        good("give 1;");
        checked("give a;", 1, 1, 0);
        good("take a once;give a;");
        good("take a most;give a;");
        good("take a once;take b most;take c once;take d most;give a+b+c+d;");
        good("take a once;take b most;take c once;take d most;give a+c;");
        checked("take a once;take b most;take c once;take d most;give a+b+c+d+e;", 1, 5, 4);
        checked("give a;", 1, 1, 0);
        // What stands behind does not help, and one bill's table is no other's.
        checked("burn a;let a once 1;give a;", 1, 1, 0);
        Shop shop = Shop.with("bill b;let a once 1;give 0;bill c;give a;");
        due("left in the one", shop.slips.check(0, 0), 4);
        due("not there in the other", shop.slips.check(1, 0), 1);
    }

    private static void readingTakesAway() {
        Shop.says("reading a SLIP (in an E, by twin, burn, call) takes it away;");
        String ahead = "take a once;take q once;";
        String[] lines = {"let x most a;", "let x most 0*(not a);", "if a;else;end;", "twin a as x y;", "burn a;",
            "call b a q as x;", "call b q a as x;"};
        for (String line : lines) {
            int next = line.startsWith("if") ? 6 : 4;
            checked(ahead + line + "burn a;give 1;", 1, next, 0);
            checked(ahead + line + "give a;", 1, next, 0);
        }
        good("take a once;give a;");
        // Once told in an E, it is gone from both branches.
        checked("take a once;if a;burn a;else;end;give 1;", 1, 3, 0);
        checked("take a once;if a;else;burn a;end;give 1;", 1, 4, 0);
    }

    private static void layingLays() {
        Shop.says("let, as lay one (as: once).");
        good("let a once 1;give a;");
        good("let a most 1;give a;");
        good("let a most 1;give 1;");
        checked("let a once 1;give 1;", 4, 2, 0);
        good("take a once;twin a as b c;give b+c;");
        checked("take a most;twin a as b c;give c;", 4, 3, 1);
        checked("take a most;twin a as b c;give b;", 4, 3, 2);
        good("call z as a;give a;");
        checked("call z as a;give 1;", 4, 2, 0);
        // What a LINE reads it may lay again.
        good("take a once;let a once a;give a;");
        good("take a once;twin a as a b;give a+b;");
        good("take a once;twin a as b a;give a+b;");
        good("take a once;call b a as a;give a;");
    }

    private static void notThere() {
        Shop.says("Wrong is the first of: 1 a SLIP is read that is not on the table"
                + " (each time it stands in an E it is read, from the left);");
        checked("take a once;give a+a;", 1, 2, 0);
        checked("take a once;take b once;give b+a+b;", 1, 3, 1);
        checked("take a once;take b once;give b*(a-(not b+a));", 1, 3, 1);
        checked("take a once;let b once a+a;give b;", 1, 2, 0);
        checked("take a once;let a once a+a;give a;", 1, 2, 0);
        checked("take a once;if a<a;else;end;give 1;", 1, 2, 0);
        checked("give c+b+a;", 1, 1, 0);
        checked("burn a;burn b;give 1;", 1, 1, 0);
        checked("take c once;burn a;burn b;give c;", 1, 2, 1);
        checked("take a once;twin b as a c;give 1;", 1, 2, 1);
        checked("take a once;take b once;call b a a as c;give c+b;", 1, 3, 0);
        checked("take a once;take b once;call b a c as d;give d+b;", 1, 3, 2);
        // The last of ten SLIPS.
        checked("let a once 1;let b once 1;let c once 1;let d once 1;let e once 1;let f once 1;let g once 1;let h once 1;"
                + "let i once 1;give a+b+c+d+e+f+g+h+i+j;", 1, 10, 9);
        good("let a once 1;let b once 1;let c once 1;let d once 1;let e once 1;let f once 1;let g once 1;let h once 1;"
                + "let i once 1;let j once 1;give a+b+c+d+e+f+g+h+i+j;");
    }

    private static void thereAlready() {
        Shop.says("2 one is laid that is on the table;");
        checked("take a once;let a once 1;give a;", 2, 2, 0);
        checked("take a most;let a most 1;give a;", 2, 2, 0);
        checked("let a most 1;let a once 1;give a;", 2, 2, 0);
        checked("take a once;take b once;twin b as a c;give a+c;", 2, 3, 0);
        checked("take a once;take b once;twin b as c a;give a+c;", 2, 3, 0);
        checked("take a once;twin a as b b;give b;", 2, 2, 1);
        checked("take a once;call z as a;give a;", 2, 2, 0);
        checked("take a once;take b once;call b b b as a;give a;", 1, 3, 1);
        // What has been read or is gone is not there.
        good("take a once;burn a;let a once 1;give a;");
        good("if 1;let a most 1;else;end;let a once 1;give a;");
        good("if 1;else;let a most 1;end;let a once 1;give a;");
        good("if 1;let a once 1;else;let a once 1;end;give a;");
        checked("if 1;let a most 1;else;let a most 1;end;let a once 1;give a;", 2, 6, 0);
    }

    private static void branches() {
        Shop.says("3 at else.. end: one that must be read once is on the table at the end of one branch and not of the other,"
                + " or is of another KIND in both (at the end's LINE; the least SLIP);");
        String[] states = {"burn q;", "let a once 1;", "let a most 1;"};
        for (int then = 0; then < 3; then++) {
            for (int other = 0; other < 3; other++) {
                String lines = "take q most;take a most;burn a;if 1;" + states[then].replace("burn q;", "")
                        + "else;" + states[other].replace("burn q;", "") + "end;";
                int end = 6 + (then > 0 ? 1 : 0) + (other > 0 ? 1 : 0);
                boolean wrong = then != other && (then == 1 || other == 1);
                if (wrong) {
                    checked(lines + "give 1;", 3, end, 1);
                    checked(lines + "give a;", 3, end, 1);
                } else if (then == other && then > 0) {
                    good(lines + "give a;");
                } else {
                    good(lines + "give 1;");
                    checked(lines + "give a;", 1, end + 1, 1);
                }
            }
        }
        // What was there at the if.
        for (String kind : new String[] {"once", "most"}) {
            String ahead = "take a " + kind + ";if 1;";
            int wrong = kind.equals("once") ? 3 : 0;
            good(ahead + "burn a;else;burn a;end;give 1;");
            good(ahead + "else;end;give a;");
            checked(ahead + "burn a;else;end;give 1;", wrong, wrong == 0 ? -1 : 5, wrong == 0 ? -1 : 0);
            checked(ahead + "else;burn a;end;give 1;", wrong, wrong == 0 ? -1 : 5, wrong == 0 ? -1 : 0);
        }
        checked("take a once;if 1;let a once a;else;let a most a;end;give a;", 3, 6, 0);
        checked("take a once;if 1;let a most a;else;end;give a;", 3, 5, 0);
        good("take a once;if 1;let a most a;else;let a most a;end;give 1;");
        good("take a once;if 1;let a once a;else;end;give a;");
    }

    private static void leastSlip() {
        String ten = "take a most;take b most;take c most;take d most;let e most 1;let f most 1;let g most 1;let h most 1;"
                + "let i most 1;let j most 1;burn a;burn b;burn c;burn d;burn e;burn f;burn g;burn h;burn i;burn j;";
        // Twenty LINES, then if (21).
        checked(ten + "if 1;let j once 1;else;end;give 1;", 3, 24, 9);
        checked(ten + "if 1;let j once 1;let i once 1;else;end;give 1;", 3, 25, 8);
        checked(ten + "if 1;let j once 1;else;let i once 1;end;give 1;", 3, 25, 8);
        checked(ten + "if 1;let a once 1;else;let j once 1;end;give 1;", 3, 25, 0);
        checked(ten + "if 1;let a most 1;let b once 1;else;let c once 1;let b most 1;end;give 1;", 3, 27, 1);
        checked(ten + "if 1;let a most 1;else;let c once 1;end;give 1;", 3, 25, 2);
    }

    private static void branchesInOneAnother() {
        String c = "let c once 1;";
        good("if 1;if 1;if 1;" + c + "else;" + c + "end;else;" + c + "end;else;" + c + "end;give c;");
        checked("if 1;if 1;if 1;" + c + "else;end;else;" + c + "end;else;" + c + "end;give c;", 3, 6, 0);
        checked("if 1;if 1;if 1;" + c + "else;" + c + "end;else;end;else;" + c + "end;give c;", 3, 9, 0);
        checked("if 1;if 1;if 1;" + c + "else;" + c + "end;else;" + c + "end;else;end;give c;", 3, 12, 0);
        checked("if 1;else;if 1;else;if 1;else;" + c + "end;end;end;give 1;", 3, 8, 0);
        // The else begins with what was there at its own if.
        good("take a once;if 1;let b once a;else;let b once a;end;if b;else;end;give 1;");
        good("take a once;take b once;if 1;burn a;if 1;burn b;else;burn b;end;else;burn b;if 1;burn a;else;burn a;end;end;give 1;");
        // Where one bill is wrong, three deep, the next begins anew.
        String deep = "if 1;if 1;if 1;let c once 1;else;let c once 1;end;else;let c once 1;end;else;let c once 1;end;give c;";
        Shop shop = Shop.with("bill a;if 1;if 1;if 1;burn x;else;end;else;end;else;end;give 1;bill b;" + deep + "bill c;" + deep);
        due("a", shop.slips.check(0, 1), 3);
        due("b", shop.slips.check(1, 0), 0);
        due("c", shop.slips.check(2, 0), 0);
        checked("take a once;if 1;burn a;if 1;burn a;else;end;else;burn a;end;give 1;", 1, 5, 0);
    }

    private static void gone() {
        Shop.says("one of most that is not there in both is gone then;");
        for (String both : new String[] {"if 1;let a most 1;else;end;", "if 1;else;let a most 1;end;",
            "take a most;if 1;burn a;else;end;", "take a most;if 1;else;burn a;end;"}) {
            int behind = both.startsWith("take") ? 6 : 5;
            good(both + "give 1;");
            checked(both + "give a;", 1, behind, 0);
            checked(both + "burn a;give 1;", 1, behind, 0);
            good(both + "let a once 1;give a;");
            checked(both + "let a once 1;give 1;", 4, behind + 1, 0);
        }
        // There in both it is there still, though one was laid anew.
        good("take a most;if 1;let a most a;else;end;give a;");
        good("take a most;if 1;else;let a most a;end;give a;");
        good("if 1;let a most 1;else;let a most 2;end;give a;");
        // Gone at an inner end, it is not there at the outer one.
        checked("take a most;if 1;if 1;burn a;else;end;else;end;give a;", 1, 9, 0);
        checked("take a most;if 1;if 1;burn a;else;end;burn a;else;end;give 1;", 1, 7, 0);
        good("take a most;if 1;if 1;burn a;else;end;let a once 1;else;let a once a;end;give a;");
    }

    private static void leftOver() {
        Shop.says("4 at give, behind its E: a SLIP of once is left (the least).");
        checked("take a once;give 1;", 4, 2, 0);
        good("take a most;give 1;");
        good("take a once;give a;");
        good("take a once;give 0*a;");
        checked("take a once;take b once;give 1;", 4, 3, 0);
        checked("take a once;take b once;give a;", 4, 3, 1);
        checked("take a once;take b once;give b;", 4, 3, 0);
        checked("take a most;take b once;give 1;", 4, 3, 1);
        checked("take a most;take b once;give a;", 4, 3, 1);
        checked("let a most 1;let b most 1;let c most 1;let d most 1;let e most 1;let f most 1;let g most 1;let h most 1;"
                + "let i most 1;let j once 1;give a;", 4, 11, 9);
        checked("let a most 1;let b most 1;let c most 1;let d most 1;let e most 1;let f most 1;let g most 1;let h most 1;"
                + "let i once 1;let j once 1;give j;", 4, 11, 8);
    }

    private static void firstOfAll() {
        Shop.says("Wrong is the first of:");
        // In one LINE a reading comes ahead of a laying, and that ahead of what is left.
        checked("take a most;let a once b;give 1;", 1, 2, 1);
        checked("take a once;take b once;twin c as a b;give 1;", 1, 3, 2);
        checked("take a once;let a once 1;give 1;", 2, 2, 0);
        checked("take a once;give b;", 1, 2, 1);
        checked("take a once;twin a as b b;give 1;", 2, 2, 1);
        // Of two LINES the first, also where the other one's number is less.
        checked("take a once;let a most 1;burn c;give 1;", 2, 2, 0);
        checked("if 1;let a once 1;else;end;burn b;give 1;", 3, 4, 0);
        checked("if 1;let a once 1;let a once 1;else;end;give 1;", 2, 3, 0);
        checked("if 1;burn a;else;let b once 1;end;give 1;", 1, 2, 0);
        checked("if 1;let b once 1;else;burn a;end;give 1;", 1, 4, 1);
    }

    private static void lastLine() {
        String burn = "let a once 1;burn a;".repeat(29);
        Shop shop = Shop.with("bill b;" + burn + "let a once 1;give 1;");
        due("wrong in the 60th", shop.slips.check(0, 0), 4);
        due("LINE 59", shop.slips.check(0, 1), 59);
        shop = Shop.with("bill b;" + burn + "let a once 1;give a;");
        due("60 LINES pass", shop.slips.check(0, 0), 0);
        shop = Shop.with("bill b;burn a;" + burn + "give 1;");
        due("LINE 0", shop.slips.check(0, 1), 0);
    }

    private static void passes() {
        Shop.says("A bill without a wrong LINE passes;");
        Shop shop = Shop.with("bill a;give 1;bill b;give x;bill c;take x once;give 1;bill d;give 1+1;");
        int[] want = {1, 0, 0, 1};
        int[] wrong = {0, 1, 4, 0};
        for (int bill = 0; bill < 4; bill++) {
            due("passes " + bill, shop.slips.bill(bill, 4), want[bill]);
            due("SOUND " + bill, shop.slips.bill(bill, 5), want[bill]);
            due("wrong " + bill, shop.slips.check(bill, 0), wrong[bill]);
        }
    }

    private static void sound() {
        Shop.says("it is SOUND if it and all that it calls, and these call, pass.");
        String calls = "bill b;call a as x;give x;bill c;call b as x;give x;bill d;call c as x;give x;";
        Shop shop = Shop.with("bill a;give 1;" + calls);
        for (int bill = 0; bill < 4; bill++) {
            due("SOUND " + bill, shop.slips.bill(bill, 5), 1);
        }
        shop = Shop.with("bill a;give y;" + calls);
        for (int bill = 0; bill < 4; bill++) {
            due("passes " + bill, shop.slips.bill(bill, 4), bill == 0 ? 0 : 1);
            due("not SOUND " + bill, shop.slips.bill(bill, 5), 0);
            due("not begun " + bill, shop.begin(bill), 0);
        }
        // One in the middle; what it calls is SOUND for all that; a call in a branch counts as well.
        shop = Shop.with("bill a;give 1;bill b;call a as x;give 1;bill c;if 0;call b as x;burn x;else;end;call a as y;give y;"
                + "bill d;call a as x;give x;");
        int[] want = {1, 0, 0, 1};
        for (int bill = 0; bill < 4; bill++) {
            due("SOUND of the middle one " + bill, shop.slips.bill(bill, 5), want[bill]);
        }
        due("c passes", shop.slips.bill(2, 4), 1);
        // A bill that calls itself.
        shop = Shop.with("bill a;take n once;call a n as m;give m;bill b;take n once;call b n as m;give 1;"
                + "bill c;take n once;twin n as k l;call c k as k;call a l as l;give k+l;"
                + "bill d;take n once;twin n as k l;call d k as k;call b l as l;give k+l;");
        int[] self = {1, 0, 1, 0};
        for (int bill = 0; bill < 4; bill++) {
            due("SOUND by itself " + bill, shop.slips.bill(bill, 5), self[bill]);
        }
        // The first of two calls, and the last.
        shop = Shop.with("bill a;give y;bill b;give 1;bill c;call a as x;call b as y;give x+y;bill d;call b as x;call a as y;give x+y;");
        due("the first call", shop.slips.bill(2, 5), 0);
        due("the last call", shop.slips.bill(3, 5), 0);
        due("one that calls none, ahead of a call", shop.slips.bill(1, 5), 1);
    }

    private static void billAsked() {
        Shop.says("Of a bill, what 0: its first LINE, 1: how many LINES, 2: how many it takes, 3: SLIPS, 4: 1 if it passes,"
                + " 5: 1 if it is SOUND; NONE: others.");
        Shop shop = Shop.with("wall w 3;bill a;take x once;take y most;let u most x;give u+w;bill b;give 1;"
                + "bill c;take p most;call a p q as r;give r;bill d;call c s as t;burn t;give 2;");
        int[][] want = {{0, 4, 2, 3, 1, 1}, {4, 1, 0, 0, 1, 1}, {5, 3, 1, 3, 0, 0}, {8, 3, 0, 2, 0, 0}};
        int[] others = {-1, 6, HIGH, LOW};
        for (int bill = 0; bill < 4; bill++) {
            for (int what = 0; what < 6; what++) {
                due("bill " + bill + " what " + what, shop.slips.bill(bill, what), want[bill][what]);
            }
            for (int what : others) {
                due("bill " + bill + " what " + what, shop.slips.bill(bill, what), -1);
            }
        }
        for (int bill : new int[] {-1, 4, 5, HIGH, LOW}) {
            for (int what = -1; what <= 6; what++) {
                due("bill " + bill + " what " + what, shop.slips.bill(bill, what), -1);
            }
        }
    }

    private static void lineAsked() {
        Shop.says("Of a LINE, what 0: 0 take, 1 let, 2 twin, 3 burn, 4 call, 5 if, 6 else, 7 end, 8 give,"
                + " 1: the SLIP that is laid (twin, call: the first one; NONE: none),"
                + " 2: the SLIP (twin: the second one) laid besides, else NONE, 3: how often SLIPS are read,"
                + " 4: the bill that is called, else NONE; NONE: others.");
        Shop shop = Shop.with("bill a;take x once;take y once;give x+y;bill b;take p most;let q once 1;twin p as r s;burn q;"
                + "call a r s as q;if q=q;else;end;call b t as u;give v*v*v;");
        int[][] want = {{0, 0, -1, 0, -1}, {0, 1, -1, 0, -1}, {8, -1, -1, 2, -1}, {0, 0, -1, 0, -1}, {1, 1, -1, 0, -1},
            {2, 2, 3, 1, -1}, {3, -1, -1, 1, -1}, {4, 1, -1, 2, 0}, {5, -1, -1, 2, -1}, {6, -1, -1, 0, -1},
            {7, -1, -1, 0, -1}, {4, 5, -1, 1, 1}, {8, -1, -1, 3, -1}};
        for (int line = 0; line < want.length; line++) {
            for (int what = 0; what < 5; what++) {
                due("LINE " + line + " what " + what, shop.slips.line(line, what), want[line][what]);
            }
            for (int what : new int[] {-1, 5, HIGH, LOW}) {
                due("LINE " + line + " what " + what, shop.slips.line(line, what), -1);
            }
        }
        for (int line : new int[] {-1, want.length, 59, 60, HIGH, LOW}) {
            for (int what = -1; what <= 5; what++) {
                due("LINE " + line + " what " + what, shop.slips.line(line, what), -1);
            }
        }
        shop = Shop.with("bill b;let a once 1;give a;");
        due("a shorter telling", shop.slips.line(2, 0), -1);
        due("what was told ahead is gone", shop.tell("bill b;give 1;"), 0);
        due("its LINE 1", shop.slips.line(1, 0), -1);
        due("its LINE 0", shop.slips.line(0, 0), 8);
    }

    private static void lineReads() {
        Shop.says("3: how often SLIPS are read,");
        String[] sums = {"1", "w", "a", "a+a", "a*(b-not a)and c", "w+5"};
        int[] reads = {0, 0, 1, 2, 4, 0};
        for (int k = 0; k < sums.length; k++) {
            Shop shop = Shop.with("wall w 1;bill b;let x once " + sums[k] + ";if " + sums[k] + ";else;end;give " + sums[k] + ";");
            due("let " + sums[k], shop.slips.line(0, 3), reads[k]);
            due("if " + sums[k], shop.slips.line(1, 3), reads[k]);
            due("give " + sums[k], shop.slips.line(4, 3), reads[k]);
        }
        for (int count = 0; count <= 4; count++) {
            String takes = "take p once;take q once;take r once;take s once;".substring(0, 12 * count);
            Shop shop = Shop.with("bill f;" + takes + "give 1;bill b;call f " + "x ".repeat(count) + "as y;give 1;");
            due("call with " + count, shop.slips.line(count + 1, 3), count);
        }
        // As often as a tape has room for.
        String many = "a+".repeat(490) + "a;";
        Shop shop = Shop.with("bill b;give " + many);
        due("491 times", shop.slips.line(0, 3), 491);
        due("of one SLIP", shop.slips.reads(0, 0, 1), 491);
    }

    private static void checkAsked() {
        Shop.says("CHECK, what 0: what is wrong (0: nothing), 1: the LINE, 2: the SLIP; NONE: others, nothing wrong (1, 2).");
        Shop shop = Shop.with("bill a;give 1;bill b;take x once;give y;");
        due("nothing", shop.slips.check(0, 0), 0);
        due("no LINE", shop.slips.check(0, 1), -1);
        due("no SLIP", shop.slips.check(0, 2), -1);
        due("wrong", shop.slips.check(1, 0), 1);
        due("its LINE", shop.slips.check(1, 1), 2);
        due("its SLIP", shop.slips.check(1, 2), 1);
        for (int what : new int[] {-1, 3, HIGH, LOW}) {
            due("what " + what, shop.slips.check(0, what), -1);
            due("what " + what, shop.slips.check(1, what), -1);
        }
        for (int bill : new int[] {-1, 2, 3, 4, HIGH, LOW}) {
            for (int what = -1; what <= 3; what++) {
                due("bill " + bill, shop.slips.check(bill, what), -1);
            }
        }
    }
}
