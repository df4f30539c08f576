/** Terms 1, promises 1 to 3 and 25: what is said of the TAPE, TOKENS, BILLS, E and FAULTS, at its edges. */
public final class EdgesOfTapeTest {
    private static final int HIGH = Integer.MAX_VALUE;
    private static final int LOW = Integer.MIN_VALUE;
    private static final String[] RESERVED = {"wall", "bill", "take", "once", "most", "give", "let", "twin", "as",
        "burn", "call", "if", "else", "end", "not", "and", "or"};

    // A bill f that takes one, a bill b with a SLIP x on its table; a NAME may stand behind each of these.
    private static final String F = "bill f;take q once;give q;bill b;take x most;";
    private static final String[] AHEAD_OF_SLIPS = {F + "let ", F + "twin ", F + "twin x as ", F + "twin x as y ",
        F + "burn ", F + "call f ", F + "call f x as "};

    public static void main(String[] args) {
        newObject();
        lastCall();
        thousandSigns();
        signsTaken();
        fed();
        tapeIsTaken();
        blanks();
        words();
        numbers();
        signs();
        walls();
        bills();
        takes();
        gives();
        linesAsTold();
        kinds();
        sixtyLines();
        ifs();
        calls();
        reservedWords();
        unlikeNames();
        tenSlips();
        slipsNumbered();
        tests();
        sums();
        within();
        oneOrZero();
        wraps();
        allIsReckoned();
        places();
        firstAndLeast();
        faultOne();
        faultTwo();
        faultThree();
        faultFour();
        faultFive();
        faultFiveInNames();
        billsFromThenOn();
        toldAgain();
        allElseStays();
        counts();
        Shop.finish("EdgesOfTapeTest");
    }

    private static void due(String what, long got, long want) {
        Shop.due(what, got, want);
    }

    private static void good(String text) {
        Shop.good(text);
    }

    private static void fault(int kind, String ahead, String rest) {
        Shop.fault(kind, ahead, rest);
    }

    private static void newObject() {
        Shop.says("No BILLS.");
        Shop shop = new Shop();
        shop.machineIs("0 -1 0 0 0 0 0 0");
        int[] counts = {0, 0, 0, 99, 1, 0};
        for (int what = 0; what < 6; what++) {
            due("new count " + what, shop.slips.count(what), counts[what]);
        }
        due("new bill", shop.slips.bill(0, 0), -1);
        due("new line", shop.slips.line(0, 0), -1);
        due("new check", shop.slips.check(0, 0), -1);
        due("new free", shop.free(0), Shop.THROWS);
        due("new begin", shop.begin(0), 0);
        due("NONE", BurningSlips.NONE, -1);
        Shop.says("None.");
        due("what is none", shop.slips.bill(0, 0), BurningSlips.NONE);
    }

    private static void lastCall() {
        Shop.says("An object is used for at most 512 calls after it has been made; what later calls answer is free.");
        Shop shop = new Shop();
        String text = "bill b;give 7;";
        due("call 1", shop.slips.feed(Shop.pack(text, 0), Shop.pack(text, 8), 0), 14);
        due("call 2", shop.slips.bills(), 0);
        due("call 3", shop.begin(0), 1);
        for (int call = 4; call <= 510; call++) {
            due("call " + call, shop.slips.machine(0), 1);
        }
        due("call 511", shop.slips.run(1000), 1);
        due("call 512", shop.given(), 7);
    }

    private static String toLength(String start, int length, String end) {
        return start + " ".repeat(length - start.length() - end.length()) + end;
    }

    private static void thousandSigns() {
        Shop.says("The TAPE has at most 1,000 signs");
        Shop shop = new Shop();
        due("none", shop.slips.count(5), 0);
        due("one", shop.feed(" "), 1);
        due("999", shop.feed(" ".repeat(998)), 999);
        due("1000", shop.feed(" "), 1000);
        due("no 1001st", shop.feed(" "), 1000);
        due("full", shop.slips.count(5), 1000);
        good(toLength("bill b;give 1", 999, ";"));
        good(toLength("bill b;give 1", 1000, ";"));
        due("; is left out", new Shop().tell(toLength("bill b;give 1", 1001, ";")), 1 + 16 * 1000);
        due("a last word", new Shop().tell(toLength("bill b;give 1;", 1000, "let")), 1 + 16 * 997);
        due("a word cut off", new Shop().tell(toLength("", 1002, "bill")), 1 + 16 * 998);
        due("a longest tape", Shop.with(toLength("", 1000, "bill b;give 345;")).free(0), 345);
        // Three signs of 24 find room.
        shop = new Shop();
        shop.feed(" ".repeat(997));
        due("three more", shop.feed("bill b;give 1;"), 1000);
        due("only those", shop.slips.bills(), 1 + 16 * 997);
        // A tape that has been full may be so again.
        due("full again", shop.feed(" ".repeat(1001)), 1000);
    }

    private static void signsTaken() {
        Shop.says("10 and 32 .. 126;");
        for (int sign = 0; sign < 256; sign++) {
            int want = sign == 10 || sign >= 32 && sign <= 126 ? 1 : 0;
            due("first byte " + sign, new BurningSlips().feed((long) sign << 56, 0, 0), want);
            due("inner byte " + sign, new BurningSlips().feed(0, (long) sign << 24, 0), want);
            due("last byte " + sign, new BurningSlips().feed(0, 0, sign), want);
        }
        due("all of the highest", new BurningSlips().feed(-1L, -1L, -1L), 0);
        due("all of 126", new BurningSlips().feed(0x7e7e7e7e7e7e7e7eL, 0x7e7e7e7e7e7e7e7eL, 0x7e7e7e7e7e7e7e7eL), 24);
        due("all of 127", new BurningSlips().feed(0x7f7f7f7f7f7f7f7fL, 0x7f7f7f7f7f7f7f7fL, 0x7f7f7f7f7f7f7f7fL), 0);
        due("LOW, HIGH", new BurningSlips().feed(Long.MIN_VALUE, Long.MAX_VALUE, Long.MIN_VALUE), 0);
        // What is left out is no blank: the letters on both sides of it stand together.
        char[] leftOut = {0, 9, 11, 13, 31, 127, 128, 160, 255};
        for (char sign : leftOut) {
            good("bi" + sign + "ll" + sign + " b;gi" + sign + "ve 1" + sign + ";");
            due("a number of it", Shop.with("bill b;give 1" + sign + "2;").free(0), 12);
        }
    }

    private static void fed() {
        Shop.says("Up to 24 signs come behind the TAPE: the bytes of a, b, c, of each the highest first;");
        Shop shop = new Shop();
        due("no sign", shop.slips.feed(0, 0, 0), 0);
        due("24 signs", shop.slips.feed(Shop.pack("bill abc", 0), Shop.pack("defgh;gi", 0), Shop.pack("ve 12345", 0)), 24);
        due("a, b, c", shop.slips.bills(), 1 + 16 * 19);
        due("behind the tape", shop.slips.feed(Shop.pack("bill", 0), ' ', Shop.pack("b;", 0)), 7);
        due("and more", shop.slips.feed('g', (long) 'i' << 32, Shop.pack("ve 12;", 0)), 15);
        due("read", shop.slips.bills(), 0);
        due("12", shop.free(0), 12);
        Shop.says("others than 10 and 32 .. 126, and what is beyond 1,000, are left out: how many there are.");
        shop = new Shop();
        due("one of three", shop.slips.feed(9, 33, 127), 1);
        shop.feed(" ".repeat(975));
        due("976", shop.slips.count(5), 976);
        due("all of 24", shop.feed(" ".repeat(24)), 1000);
        due("none of 24", shop.feed(" ".repeat(24)), 1000);
    }

    private static void tapeIsTaken() {
        Shop.says("what reads it takes it: it is empty then.");
        Shop shop = Shop.with("wall w 1;bill b;give 1;");
        due("empty", shop.slips.count(5), 0);
        due("a tape without a sign", shop.slips.bills(), 0);
        due("that tells no bills", shop.slips.count(1), 0);
        due("a fault", shop.tell("bill b;give ;"), 1 + 16 * 12);
        due("empty behind it", shop.slips.count(5), 0);
        due("from the start", shop.feed("bill"), 4);
        Shop.says("The TAPE (empty then, in any case) is read as BILLS: 0, or their FAULT (all else stays then).");
        due("no NAME", shop.slips.bills(), 1 + 16 * 4);
        due("empty again", shop.slips.count(5), 0);
        due("nothing of it is left", shop.tell(" c;give 1;"), 1 + 16);
        // A WORD or NUMBER that a tape ends with has nothing behind it of a longer tape ahead.
        due("letters", shop.tell("x".repeat(40)), 1);
        due("a NAME at the end", shop.tell("bill abcdefgh"), 1 + 16 * 13);
        due("digits", shop.tell("9".repeat(40)), 1);
        due("a NUMBER at the end", shop.tell("wall w 1234"), 1 + 16 * 11);
        due("signs", shop.tell(";".repeat(40)), 1);
        due("a blank at the end", shop.tell("wall w 1234 "), 1 + 16 * 12);
    }

    private static void blanks() {
        Shop.says("TOKENS, each as long as can be, blanks (10, 32) between where one likes:");
        good("bill b;give(1)*(2)-3;");
        good("\n  bill\n\n b \n;\n\n\ngive\n(\n1\n)\n*\n2\n;\n \n");
        good("\n");
        good(" ");
        good("wall w1;bill b;if 1and 2or w;else;end;give(not(1));");
        fault(1, "", "bil l b;");
        fault(1, "", "bil\nl b;");
        fault(1, "", "billb;");
        fault(1, "bill b;", "giv e 1;");
        fault(1, "bill b;let xonce", "1;");
        fault(1, "bill b;let x once1", "x;");
        fault(1, "bill b;give 1 ", "2;");
        fault(1, "bill b;give 1\n", "2;");
        fault(1, "bill b;take x ", "on ce;");
        due("12 and 1 2", Shop.with("bill b;give 12+1;").free(0), 13);
        due("the slips n and nn", Shop.with("bill b;take n once;take nn once;give nn;").free(0, 1, 2), 2);
        // A sign that may be fed and is no blank, at both edges of a blank.
        fault(1, "bill", "!b;");
        fault(1, "bill", "~b;");
    }

    private static void words() {
        Shop.says("WORDS (letters a .. z, 8 at most)");
        good("wall abcdefgh 1;bill zzzzzzzz;take aaaaaaaa once;give aaaaaaaa;bill b;take c most;let zzzzzzzz once 1;"
                + "twin zzzzzzzz as zzzzzzzy zzzzzzzx;burn zzzzzzzx;call zzzzzzzz zzzzzzzy as billbill;give abcdefgh;");
        String[] eight = {"wall abcdefgh ", "bill abcdefgh ", F + "call abcdefgh ", F + "let abcdefgh "};
        String[] nine = {"", "wall ", "bill ", F + "take ", F + "call ", F + "let x ", F, F + "give ", F + "give x ",
            F + "give x+", "bill b;give 1;", "wall w "};
        for (String ahead : nine) {
            fault(1, ahead, "abcdefghi;");
            fault(1, ahead, "zzzzzzzzzzzzzzzzzzzzzz;");
        }
        for (String ahead : AHEAD_OF_SLIPS) {
            fault(1, ahead, "abcdefghi as x;");
        }
        fault(1, eight[0], ";");
        fault(1, eight[1], "x;");
        fault(2, F + "call ", "abcdefgh x as y;");
        fault(1, eight[3], "1;");
        good("bill a;give 1;");
        good("bill z;give 1;");
        for (String sign : new String[] {"`", "{", "@", "[", "A", "Z", "_"}) {
            fault(1, "bill ", sign + ";");
            fault(1, "bill b", sign + ";");
            fault(1, "bill b;give a", sign + ";");
        }
        // NAMES are unlike by each of their eight letters, and by how many they are.
        String[] names = {"abcdefgh", "abcdefgi", "bbcdefgh", "abcdefg", "a", "aa", "z", "zz", "za", "az"};
        StringBuilder text = new StringBuilder("bill b;");
        for (int k = 0; k < names.length; k++) {
            text.append("let ").append(names[k]).append(" most ").append(1 << k).append(';');
        }
        Shop shop = Shop.with(text + "give 1;");
        due("ten NAMES", shop.slips.bill(0, 3), 10);
        for (int k = 0; k < names.length; k++) {
            due(names[k], Shop.with(text + "give " + names[k] + ";").free(0), 1 << k);
        }
    }

    private static void numbers() {
        Shop.says("NUMBERS (1 to 4 digits; a letter may stand right behind)");
        String[] texts = {"0", "9", "10", "99", "100", "999", "1000", "9999", "0000", "0009", "09"};
        int[] worth = {0, 9, 10, 99, 100, 999, 1000, 9999, 0, 9, 9};
        for (int k = 0; k < texts.length; k++) {
            due("number " + texts[k], Shop.with("bill b;give " + texts[k] + ";").free(0), worth[k]);
            due("wall " + texts[k], Shop.with("wall w " + texts[k] + ";bill b;give w;").free(0), worth[k]);
        }
        for (String text : new String[] {"10000", "00001", "99999", "123456789012345678901234567890"}) {
            fault(1, "bill b;give ", text + ";");
            fault(1, "wall w ", text + ";");
            fault(1, "bill b;let x once 1+", text + "and 1;");
        }
        good("bill b;if 1and 2or 9999and 0000or 5;else;end;give 1;");
        fault(1, "bill b;give 1", "x;");
        fault(1, "bill b;give 9999", "x;");
        fault(1, "bill b;give ", "12345and 1;");
        for (String sign : new String[] {"/", ":", ".", ","}) {
            fault(1, "bill b;give ", sign + "1;");
            fault(1, "bill b;give 1", sign + "1;");
        }
    }

    private static void signs() {
        Shop.says("the signs ( ) < = + - * ;");
        good("bill b;give(1);");
        String joining = "<=+-*";
        for (int sign = 33; sign <= 126; sign++) {
            char c = (char) sign;
            boolean isWordOrNumber = c >= 'a' && c <= 'z' || c >= '0' && c <= '9';
            if (joining.indexOf(c) >= 0) {
                good("bill b;give 1" + c + "2;");
                good("bill b;give 1 " + c + " 2;");
            } else if (!isWordOrNumber) {
                boolean isOpen = c == '(';
                if (!isOpen) {
                    fault(1, "bill b;give 1+", c + "2;");
                }
                if (c != ';') {
                    fault(1, "bill b;give 1", c + "2;");
                    fault(1, "bill b", c + ";");
                    fault(1, "", c + "bill b;");
                }
            }
        }
        // Two signs that stand together are two tokens.
        fault(1, "bill b;give 1<", "=2;");
        fault(1, "bill b;give 1;", ";");
        fault(1, "bill b;give 1=", "=2;");
        fault(1, "bill b;give ", "-1;");
        Shop.says("All else (a longer WORD or NUMBER, too, at its first sign) is none.");
        fault(1, "bill b;give ", "abcdefghijkl;");
        fault(1, "bill b;give ", "1234567;");
        fault(1, "bill b;give 1 ", "#;");
        fault(1, "  ", "#");
    }

    private static void walls() {
        Shop.says("BILLS: any number of wall NAME N ; (4 at most, ahead of all bills)");
        String[] names = {"c", "d", "e", "f"};
        StringBuilder text = new StringBuilder();
        for (int k = 0; k <= 4; k++) {
            due("walls", Shop.with(text + "bill b;give 1;").slips.count(0), k);
            due("walls alone", Shop.with(text.toString()).slips.count(0), k);
            if (k < 4) {
                text.append("wall ").append(names[k]).append(' ').append(k + 5).append(';');
            }
        }
        Shop shop = Shop.with(text + "bill b;give((c*10+d)*10+e)*10+f;");
        due("each its number", shop.free(0), 5678);
        fault(5, text.toString(), "wall g 1;");
        fault(5, text.toString(), "wall");
        fault(1, "bill b;give 1;", "wall c 1;");
        fault(1, "wall c 1;bill b;give c;", "wall d 1;");
        fault(1, text + "bill b;give 1;", "wall g 1;");
    }

    private static void bills() {
        Shop.says("then of bills (4 at most, numbered as told): bill NAME ;");
        String[] names = {"d", "c", "b", "a"};
        StringBuilder text = new StringBuilder();
        for (int k = 0; k <= 4; k++) {
            Shop shop = Shop.with(text.toString());
            due("bills", shop.slips.count(1), k);
            for (int bill = 0; bill < k; bill++) {
                due("first LINE", shop.slips.bill(bill, 0), bill);
                due("gives", shop.free(bill), 30 + bill);
            }
            due("no such bill", shop.slips.bill(k, 0), -1);
            if (k < 4) {
                text.append("bill ").append(names[k]).append(";give ").append(30 + k).append(';');
            }
        }
        fault(5, text.toString(), "bill e;give 1;");
        fault(5, text.toString(), "bill");
    }

    private static void takes() {
        Shop.says("TAKE's, 4 at most: take NAME KIND ;");
        String[] takes = {"take p once;", "take q most;", "take r once;", "take s most;"};
        String text = "";
        for (int k = 0; k <= 4; k++) {
            Shop shop = Shop.with("bill b;" + text + "give 1;bill c;" + text + "give 2;");
            due("takes", shop.slips.bill(0, 2), k);
            due("takes of another", shop.slips.bill(1, 2), k);
            due("LINES", shop.slips.bill(1, 1), k + 1);
            text += k < 4 ? takes[k] : "";
        }
        fault(5, "bill b;" + text, "take t once;");
        fault(5, "bill b;" + text, "take");
        fault(5, "bill b;" + text + "give 1;bill c;" + text, "take t once;");
        fault(1, "bill b;" + text + "let t once 1;", "take u once;");
    }

    private static void gives() {
        Shop.says("then LINES, and one give E ; that ends it.");
        Shop shop = Shop.with("bill b;give 1;");
        due("LINES", shop.slips.bill(0, 1), 1);
        fault(1, "bill b;", "");
        fault(1, "bill b;let x once 1;", "");
        fault(1, "bill b;give 1;", "give 2;");
        fault(1, "bill b;give 1;", "let x once 1;");
        fault(1, "bill b;let x once 1;", "bill c;give 1;");
        good("bill b;let x once 1;give x;bill c;give 1;");
    }

    /** Another TOKEN in the place of each, and an end ahead of each, is a FAULT at that place. */
    private static void eachTokenMatters(String start, String text) {
        String[] tokens = text.split(" ");
        StringBuilder ahead = new StringBuilder(start);
        for (int k = 0; k < tokens.length; k++) {
            StringBuilder rest = new StringBuilder("!");
            for (int j = k + 1; j < tokens.length; j++) {
                rest.append(' ').append(tokens[j]);
            }
            fault(1, ahead.toString(), rest.toString());
            if (k > 0) {
                fault(1, ahead.toString(), "");
                fault(1, ahead.toString(), "12345");
            }
            ahead.append(tokens[k]).append(k % 3 == 0 ? " " : "\n");
        }
        good(ahead.toString());
    }

    private static void linesAsTold() {
        Shop.says("LINES: let NAME KIND E ; twin NAME as NAME NAME ; burn NAME ; call NAME NAME .. as NAME ;"
                + " if E ; else ; end ;");
        eachTokenMatters("", "bill b ; take x once ; take y most ; give x + ( y ) ;");
        eachTokenMatters("", "bill b ; let x once 1 ; let y most not x ; give y * 2 < 3 ;");
        eachTokenMatters("", "bill b ; twin x as y z ; burn y ; give z ;");
        eachTokenMatters("bill f;take q once;take r once;give 1;", "bill b ; call f x y as z ; give z ;");
        eachTokenMatters("bill f;give 1;", "bill b ; call f as z ; give z ;");
        eachTokenMatters("", "bill b ; if 1 and 2 ; burn x ; else ; burn y ; end ; give 1 = 2 ;");
        eachTokenMatters("", "wall w 5 ;");
        eachTokenMatters("wall v 1;", "wall w 5 ;");
        // One TOKEN too many.
        String b = "bill b;";
        fault(1, b + "let x once 1 ", "2;");
        fault(1, b + "let x once ", "once 1;");
        fault(1, b + "twin x as y z ", "u;");
        fault(1, b + "twin x ", "y as z u;");
        fault(1, b + "burn x ", "y;");
        fault(1, b + "if 1;else ", "1;");
        fault(1, b + "if 1;else;end ", "1;");
        fault(1, b + "call b as x ", "y;");
        fault(1, b + "give 1;", ";");
        fault(1, "bill b ", "c;");
        fault(1, "wall w 5 ", "6;");
        fault(1, b + "let x once 1;", ";");
    }

    private static void kinds() {
        Shop.says("KIND is once or most.");
        good("bill b;take x once;take y most;let z once 1;let u most 1;give 1;");
        for (String word : RESERVED) {
            if (!word.equals("once") && !word.equals("most")) {
                fault(1, "bill b;take x ", word + ";");
                fault(1, "bill b;let x ", word + " 1;");
            }
        }
        for (String word : new String[] {"onc", "oncee", "mos", "mosts", "x", "1", ";"}) {
            fault(1, "bill b;take x ", word + ";");
            fault(1, "bill b;let x ", word + " 1;");
        }
    }

    private static String burns(int count) {
        return "burn x;".repeat(count);
    }

    private static void sixtyLines() {
        Shop.says("LINES, take and give too, 60 at most together, numbered from 0 through all bills (bill and wall are none).");
        Shop shop = Shop.with("bill b;" + burns(59) + "give 1;");
        due("60 LINES", shop.slips.count(2), 60);
        due("the last one", shop.slips.line(59, 0), 8);
        due("none behind it", shop.slips.line(60, 0), -1);
        fault(5, "bill b;" + burns(60), "give 1;");
        // Fifteen in each of four bills, with four walls; the word of a 61st may be any that can stand there.
        String walls = "wall p 1;wall q 2;wall r 3;wall s 4;";
        String fifteen = "take x once;take y most;" + burns(12) + "give 1;";
        String most = walls + "bill a;" + fifteen + "bill b;" + fifteen + "bill c;" + fifteen + "bill d;";
        shop = Shop.with(most + fifteen);
        due("60 LINES of four", shop.slips.count(2), 60);
        for (int bill = 0; bill < 4; bill++) {
            due("first LINE", shop.slips.bill(bill, 0), 15 * bill);
            due("how many", shop.slips.bill(bill, 1), 15);
            due("a take", shop.slips.line(15 * bill, 0), 0);
            due("a give", shop.slips.line(15 * bill + 14, 0), 8);
        }
        String full = most + "take x once;take y most;" + burns(13);
        for (String line : new String[] {"let z once 1;", "twin x as y z;", "burn x;", "call d x y as x;", "if 1;", "give 1;"}) {
            fault(5, full, line);
        }
        String taken = "bill a;" + burns(57) + "give 1;bill b;";
        good(taken + "take x once;give x;");
        fault(5, taken + "take x once;take y once;", "give 1;");
        fault(5, "bill a;" + burns(59) + "give 1;bill b;", "take x once;");
        fault(5, "bill a;" + burns(57) + "give 1;bill b;take x once;take y once;", "take z once;");
        fault(5, "bill a;" + burns(59) + "if 1;", "else;");
        fault(5, "bill a;" + burns(58) + "if 1;else;", "end;");
        good("bill a;" + burns(56) + "if 1;else;end;give 1;");
        fault(5, "bill a;" + burns(57) + "if 1;else;end;", "give 1;");
    }

    private static void ifs() {
        Shop.says("if, else, end stand as they must: each if has one else and one end behind it, in one another, 3 deep at most.");
        String b = "bill b;";
        String one = "if 1;else;end;";
        String two = "if 1;" + one + "else;" + one + "end;";
        String three = "if 1;" + two + "else;" + two + "end;";
        good(b + "give 1;");
        good(b + one + "give 1;");
        good(b + two + one + two + "give 1;");
        good(b + three + one + "give 1;");
        fault(5, b + "if 1;if 1;if 1;", one);
        fault(5, b + "if 1;else;if 1;else;if 1;else;", one);
        fault(5, b + "if 1;" + two + "else;" + one + "if 1;if 1;", one);
        fault(1, b, "else;");
        fault(1, b, "end;");
        fault(1, b + one, "else;");
        fault(1, b + one, "end;");
        fault(1, b + "if 1;", "end;");
        fault(1, b + "if 1;else;", "else;");
        fault(1, b + "if 1;" + one, "end;");
        fault(1, b + "if 1;if 1;else;", "else;");
        fault(1, b + "if 1;else;" + one, "else;");
        fault(1, b + two, "end;");
        fault(1, b + "if 1;", "give 1;");
        fault(1, b + "if 1;else;", "give 1;");
        fault(1, b + "if 1;" + one, "give 1;");
        fault(1, b + one + "give 1;bill c;", "end;");
    }

    private static void calls() {
        Shop.says("call: the NAME of a bill told ahead or the same one, then as many NAMES as it takes"
                + " (of the same one: as its take's), then as NAME.");
        String[] takes = {"", "take p once;", "take p once;take q once;", "take p once;take q once;take r once;",
            "take p once;take q once;take r once;take s once;"};
        String[] names = {"", "p ", "p q ", "p q r ", "p q r s "};
        for (int taken = 0; taken <= 4; taken++) {
            String other = "bill f;" + takes[taken] + "give 1;bill b;call f ";
            String same = "bill b;" + takes[taken] + "call b ";
            for (String ahead : new String[] {other, same}) {
                for (int told = 0; told <= 4; told++) {
                    if (told < taken) {
                        fault(1, ahead + names[told], "as x;give x;");
                    } else if (told == taken) {
                        good(ahead + names[told] + "as x;give x;");
                    } else {
                        fault(5, ahead + names[taken], names[told].substring(2 * taken) + "as x;give x;");
                    }
                }
            }
            fault(5, other + names[taken], "a b c d e f g h i j k l as x;");
            fault(5, same + names[taken], names[taken] + "z as x;");
        }
        String three = "bill a;give 1;bill b;take x once;give x;bill c;";
        good(three + "call a as y;call b y as y;call c as z;give y;bill d;call a as y;call b y as y;call c as z;give z;");
        fault(2, three + "call ", "d as z;give z;bill d;give 1;");
        fault(2, "bill a;call ", "b as x;give x;bill b;give 1;");
        fault(2, three + "call ", "y as z;");
        // The same NAME may be told twice, and as what comes of it.
        good(three + "take y once;call b y as y;give y;");
        good("bill b;take p once;take q once;call b p p as p;give p;");
    }

    private static void reservedWords() {
        Shop.says("A NAME is another WORD than wall, bill, take, once, most, give, let, twin, as, burn, call, if, else,"
                + " end, not, and, or.");
        due("so many", RESERVED.length, 17);
        for (String word : RESERVED) {
            fault(1, "wall ", word + " 1;");
            fault(1, "bill ", word + ";");
            fault(1, "bill b;take ", word + " once;");
            fault(1, F + "call ", word + " x as y;");
            for (String ahead : AHEAD_OF_SLIPS) {
                fault(1, ahead, word + ";");
            }
            if (!word.equals("not")) {
                fault(1, F + "give ", word + ";");
                fault(1, F + "give x+", word + ";");
            }
            String longer = word + "s";
            String shorter = word.substring(1);
            for (String name : new String[] {longer, shorter}) {
                good("bill " + name + ";take " + name + " once;burn " + name + ";let " + name + " once 1;twin " + name
                        + " as " + name + " " + name + ";call " + name + " " + name + " as " + name + ";give " + name + ";");
                good("wall " + name + " 1;bill b;give " + name + ";");
            }
        }
    }

    private static void unlikeNames() {
        Shop.says("Walls and bills have unlike NAMES;");
        fault(3, "wall a 1;wall ", "a 2;");
        fault(3, "wall a 1;wall b 1;wall c 1;wall ", "c 2;");
        fault(3, "wall a 1;bill ", "a;give 1;");
        fault(3, "wall a 1;wall b 1;wall c 1;wall d 1;bill ", "d;");
        fault(3, "bill a;give 1;bill ", "a;give 1;");
        fault(3, "bill a;give 1;bill b;give 1;bill c;give 1;bill ", "c;");
        good("wall a 1;wall aa 1;bill ab;give 1;bill ba;give 1;");
        Shop.says("a SLIP (each NAME behind take, let, as) has none of a wall's;");
        for (String ahead : AHEAD_OF_SLIPS) {
            fault(3, "wall v 1;wall w 1;" + ahead, "w;");
        }
        fault(3, "wall w 1;bill b;take ", "w once;");
        // It may have a bill's, its own too, and that of another bill's SLIP.
        good("bill b;take b once;give b;bill c;take b once;let c most 1;give b;");
        due("a SLIP of its own", Shop.with("bill b;take x once;give x;bill c;let x once 4;give x+b;").slips.bill(1, 3), 2);
    }

    private static final String TEN = "take a once;take b once;let c once d;twin e as f g;burn h;let i once j;";

    private static void tenSlips() {
        Shop.says("10 SLIPS at most in a bill,");
        due("ten", Shop.with("bill b;" + TEN + "give a+b+c+d+e+f+g+h+i+j;").slips.bill(0, 3), 10);
        due("none", Shop.with("wall w 1;bill b;give w;").slips.bill(0, 3), 0);
        Shop shop = Shop.with("bill b;" + TEN + "give 1;bill c;" + TEN + "give 1;bill d;let z once 1;give k+l;");
        due("ten of another", shop.slips.bill(1, 3), 10);
        due("three of another", shop.slips.bill(2, 3), 3);
        String ahead = "bill b;" + TEN;
        fault(5, ahead + "let ", "k once 1;");
        fault(5, ahead + "let a once ", "k;");
        fault(5, ahead + "let a once (a+", "k);");
        fault(5, ahead + "twin ", "k as a b;");
        fault(5, ahead + "twin a as ", "k b;");
        fault(5, ahead + "twin a as a ", "k;");
        fault(5, ahead + "burn ", "k;");
        fault(5, ahead + "call b ", "k a as a;");
        fault(5, ahead + "call b a ", "k as a;");
        fault(5, ahead + "call b a b as ", "k;");
        fault(5, ahead + "if ", "k;");
        fault(5, ahead + "give ", "k;");
        good("wall k 1;" + ahead + "give k+j;");
        good("bill k;give 1;" + ahead + "call k as a;give a;");
    }

    private static void slipsNumbered() {
        Shop.says("numbered as they first stand there (behind take, let, as or anywhere else,"
                + " but behind call a bill's NAME is that).");
        Shop shop = Shop.with("bill z;take q once;give q;bill b;take z once;let g once f+z;twin d as c b;burn a;"
                + "call z h as i;give j;");
        due("SLIPS", shop.slips.bill(1, 3), 10);
        due("take z", shop.slips.line(2, 1), 0);
        due("let g", shop.slips.line(3, 1), 1);
        due("as c", shop.slips.line(4, 1), 4);
        due("as b", shop.slips.line(4, 2), 5);
        due("as i", shop.slips.line(6, 1), 8);
        // z, f, d, a, h and j are read, by all that there is.
        int[] reads = {1, 0, 1, 1, 0, 0, 1, 1, 0, 1};
        for (int slip = 0; slip < 10; slip++) {
            due("reads of " + slip, shop.slips.reads(1, slip, 0), reads[slip]);
        }
        due("no eleventh", shop.slips.reads(1, 10, 0), -1);
        shop = Shop.with("bill z;take z once;give z;bill b;take z once;call z z as z;give z;");
        due("one SLIP", shop.slips.bill(1, 3), 1);
        due("read by call and give", shop.slips.reads(1, 0, 0), 2);
        due("given through", shop.free(1, 5), 5);
        due("no SLIP by call alone", Shop.with("bill z;give 1;bill b;call z as x;give x;").slips.bill(1, 3), 1);
    }

    private static void worth(String sum, int a, int b, int want) {
        Shop shop = Shop.with("wall w 5;bill f;take a most;take b most;give " + sum + ";");
        due("FREE " + sum + " with " + a + " " + b, shop.free(0, a, b), want);
        if (shop.begin(0, a, b) == 1) {
            due("a step", shop.slips.run(1), 1);
            due("given " + sum + " with " + a + " " + b, shop.given(), want);
        }
    }

    private static void tests() {
        Shop.says("E: TEST { and TEST or or TEST }, from the left;");
        worth("1 or 1 and 0", 0, 0, 0);
        worth("1 or (1 and 0)", 0, 0, 1);
        worth("0 and 0 or 1", 0, 0, 1);
        worth("0 and (0 or 1)", 0, 0, 0);
        worth("0 and 1 or 1 and 0", 0, 0, 0);
        worth("1<2 and 2<3 or 4<3", 0, 0, 1);
        worth("1 and 2 and 3 and 0", 0, 0, 0);
        fault(1, "bill b;give 1 and ", "or 2;");
        fault(1, "bill b;give 1 or ", ";");
        fault(1, "bill b;give ", "and 1;");
        Shop.says("TEST: SUM, or SUM < SUM, or SUM = SUM;");
        worth("1+1<2+1", 0, 0, 1);
        worth("2*3=5+1", 0, 0, 1);
        worth("(1<2)=1 and 1", 0, 0, 1);
    }

    private static void sums() {
        Shop.says("TEST: SUM, or SUM < SUM, or SUM = SUM; SUM: PRODUCT { + or - PRODUCT }; PRODUCT: PART { * PART };");
        fault(1, "bill b;give 1<2", "<3;");
        fault(1, "bill b;give 1=2", "=3;");
        fault(1, "bill b;give 1<2+3*4", "=5;");
        fault(1, "bill b;give 1 and 1=2", "<3;");
        fault(1, "bill b;give (1<2", "<3);");
        good("bill b;give 1<2 and 3<4 or 5=6;");
        good("bill b;give (1<2)<(3=4);");
        worth("10-2-3", 0, 0, 5);
        worth("10-(2-3)", 0, 0, 11);
        worth("10-2*3+1", 0, 0, 5);
        worth("2*3*4", 0, 0, 24);
        worth("2+3*4", 0, 0, 14);
        worth("(2+3)*4", 0, 0, 20);
        fault(1, "bill b;give 1+", "+2;");
        fault(1, "bill b;give 1*", "*2;");
        fault(1, "bill b;give 1-", ";");
        fault(1, "bill b;give ", "*1;");
        Shop.says("PART: a NUMBER, the NAME of a wall or of a SLIP, not PART, ( E );");
        worth("w*w+a", 3, 0, 28);
        worth("not a+b", 0, 7, 8);
        worth("not(a+b)", 1, 1, 0);
        worth("not a*b", 0, 7, 7);
        worth("not a<b", 0, 1, 0);
        worth("not a=b", 0, 1, 1);
        worth("not not a", 9, 0, 1);
        worth("(a<b and b<a)+3", 1, 2, 3);
        fault(1, "bill b;give (", ");");
        fault(1, "bill b;give (1", ";");
        fault(1, "bill b;give 1", ");");
        fault(1, "bill b;give (1 ", "2);");
        fault(1, "bill b;give not ", ";");
        fault(1, "bill b;give not ", ");");
        fault(1, "bill b;give 1 ", "not 2;");
        fault(1, "bill b;give 1", "(2);");
        fault(1, "bill b;give (1)", "2;");
    }

    private static void within() {
        Shop.says("no PART lies within 5 of not and ( ).");
        String ahead = "wall w 7;bill b;take x most;give ";
        String[] four = {"((((", "not not not not ", "(not(not ", "not(not("};
        int[] closing = {4, 0, 2, 2};
        String[] parts = {"1", "w", "x"};
        for (int k = 0; k < four.length; k++) {
            String close = ")".repeat(closing[k]);
            for (String part : parts) {
                good(ahead + four[k] + part + close + ";");
                // Behind it one may go as deep again.
                good(ahead + four[k] + part + close + "*" + four[k] + part + close + ";");
                fault(5, ahead + four[k] + "(", part + ")" + close + ";");
                fault(5, ahead + four[k] + "not ", part + close + ";");
                fault(5, ahead + four[k] + part + close + "+" + four[k] + "(", part + ")" + close + ";");
            }
            fault(5, ahead + four[k] + "(", "(1))" + close + ";");
            fault(5, ahead + four[k] + "(", "not 1)" + close + ";");
            fault(5, ahead + four[k] + "not ", "not 1" + close + ";");
            fault(5, ahead + four[k] + "not ", "(1)" + close + ";");
        }
        fault(5, ahead + "(1+(1+(1+(1+(", "1)))));");
        fault(5, ahead + "(1+(1+(1+(1+not ", "1))));");
        good(ahead + "(1+(1+(1+(1)+1)+1)+1)+not not not not 1;");
        fault(5, ahead + "(((1)+(((", "1)))));");
        due("four deep", Shop.with(ahead + "((((x+1)*2)+1)*2)+(((w)));").free(0, 3), 25);
        for (String line : new String[] {"let y once ", "if "}) {
            good("bill b;" + line + "((((1))));" + (line.startsWith("if") ? "else;end;" : "") + "give 1;");
            fault(5, "bill b;" + line + "(((((", "1)))));");
        }
    }

    private static void oneOrZero() {
        Shop.says("Of not, and, or, < and = comes 1 or 0; what is not 0 is so;");
        int[] numbers = {0, 1, -1, 2, HIGH, LOW};
        for (int a : numbers) {
            worth("not a", a, 0, a == 0 ? 1 : 0);
            worth("not not a", a, 0, a == 0 ? 0 : 1);
            for (int b : numbers) {
                worth("a and b", a, b, a != 0 && b != 0 ? 1 : 0);
                worth("a or b", a, b, a != 0 || b != 0 ? 1 : 0);
                worth("a<b", a, b, a < b ? 1 : 0);
                worth("a=b", a, b, a == b ? 1 : 0);
            }
            due("if of " + a, Shop.with("bill b;take a most;if a;let x once 1;else;let x once 2;end;give x;").free(0, a),
                    a == 0 ? 2 : 1);
        }
        worth("2 and 2", 0, 0, 1);
        worth("(a<b)+(a<b)+(a=a)", 1, 2, 3);
    }

    private static void wraps() {
        Shop.says("ints wrap.");
        worth("a+1", HIGH - 1, 0, HIGH);
        worth("a+1", HIGH, 0, LOW);
        worth("a-1", LOW + 1, 0, LOW);
        worth("a-1", LOW, 0, HIGH);
        worth("a+a", HIGH, 0, -2);
        worth("a+a", LOW, 0, 0);
        worth("0-a", HIGH, 0, -HIGH);
        worth("0-a", LOW, 0, LOW);
        worth("a*(0-1)", LOW, 0, LOW);
        worth("a*b", HIGH, HIGH, 1);
        worth("a*b", LOW, LOW, 0);
        worth("a*b", LOW, HIGH, LOW);
        worth("a*b", 65536, 32767, 2147418112);
        worth("a*b", 65536, 32768, LOW);
        worth("a*b", 65536, 65536, 0);
        worth("a-b", LOW, HIGH, 1);
        worth("a-b", HIGH, LOW, -1);
        worth("9999*9999*9999", 0, 0, -1027349969);
        worth("a-b<0", HIGH, LOW, 1);
        worth("a<b", LOW, HIGH, 1);
        worth("a<b", HIGH, LOW, 0);
        worth("a+1<a", HIGH, 0, 1);
        worth("a+1=b", HIGH, LOW, 1);
        // What wraps to 0 is not so.
        worth("not(a+a)", LOW, 0, 1);
        worth("a*a or 0", 65536, 0, 0);
        Shop shop = Shop.with("bill b;take a once;let c once a+1;twin c as d e;if d<0;let f once e-1;else;let f once e;end;"
                + "give f;");
        due("begin", shop.begin(0, HIGH), 1);
        due("a let", shop.slips.run(1), 1);
        due("wrapped", shop.slip(1), LOW);
        due("the rest", shop.slips.run(9), 5);
        due("back", shop.given(), HIGH);
    }

    private static void allIsReckoned() {
        Shop.says("All of an E is reckoned, from the left.");
        for (String sum : new String[] {"0 and x", "1 or x", "0*x", "1 or 2 or (0 and x)"}) {
            due("x was never laid: " + sum, Shop.with("bill b;give " + sum + ";").free(0), Shop.THROWS);
            due("x is read: " + sum, Shop.with("bill b;give " + sum + ";").slips.line(0, 3), 1);
            due("x is not there: " + sum, Shop.with("bill b;give " + sum + ";").slips.check(0, 0), 1);
        }
        Shop shop = Shop.with("bill b;take a once;take c once;give 0 and a or 1 or c;");
        due("passes", shop.slips.check(0, 0), 0);
        shop.begin(0, 1, 1);
        shop.slips.run(1);
        due("both are ASH", shop.slips.machine(4), 2);
        due("the first that is not there", Shop.with("bill b;burn z;give y+x;").slips.check(0, 2), 0);
        due("from the left", Shop.with("bill b;take z once;take y once;give 0*(z+(x+(u+y)));").slips.check(0, 2), 2);
        due("from the left", Shop.with("bill b;take z once;take y once;give (z*y)+z+u;").slips.check(0, 2), 0);
    }

    private static void places() {
        Shop.says("FAULTS, kind + 16 * the place (from 0) of a token, the end being one at the text's length:");
        due("place 0", new Shop().tell("!"), 1);
        due("place 0", new Shop().tell("bills b;"), 1);
        due("place 1", new Shop().tell(" !"), 17);
        due("a blank is a place", new Shop().tell("bill b;\n\n give\n?"), 1 + 16 * 15);
        due("the end", new Shop().tell("bill"), 1 + 16 * 4);
        due("the end behind blanks", new Shop().tell("bill  \n\n"), 1 + 16 * 8);
        due("the end behind a LINE", new Shop().tell("bill b;give 1; bill c; "), 1 + 16 * 23);
        due("the 1000th sign", new Shop().tell(toLength("bill b;give 1;", 1000, "?")), 1 + 16 * 999);
        due("the end of a full tape", new Shop().tell(toLength("bill b;", 1000, "")), 1 + 16 * 1000);
        due("a kind 5 far behind", new Shop().tell(toLength("bill b;give ", 900, "(((((1")), 5 + 16 * 899);
        due("the end of nothing is none", new Shop().tell(""), 0);
        // Signs left out when they are fed have no place.
        due("left out", new Shop().tell("\tbill\r\u0000 !"), 1 + 16 * 5);
    }

    private static void firstAndLeast() {
        Shop.says("of the first token from the left that is wrong the least:");
        fault(3, "wall a 1;wall ", "a 12345;bill 7;");
        fault(1, "wall a 1;wall ", "if a 1;");
        fault(5, "bill b;give (((((", "x);bill b;");
        fault(1, "bill b;give 1 ", "2 (((((((;");
        fault(2, "bill b;call ", "c b b b as 5;");
        fault(1, "bill b;if 1;", "give 1;bill b;");
        fault(3, "bill b;take x once;take ", "x twice;take ! ;");
        String walls = "wall w 1;wall p 1;wall q 1;wall r 1;";
        String bills = "bill a;give 1;bill b;give 1;bill c;give 1;bill d;";
        String sixty = "bill a;" + burns(59);
        // A fifth wall behind a bill, or within one; a fifth bill within one, or within an if.
        fault(1, walls + "bill b;give 1;", "wall v 1;");
        fault(1, walls + "bill b;", "wall v 1;");
        fault(1, bills, "bill e;");
        fault(1, bills + "if 1;", "bill e;");
        // A fifth take, or one that would be the 61st LINE, behind another LINE.
        fault(1, "bill b;take p once;take q once;take r once;take s once;burn p;", "take t once;");
        fault(1, "bill a;" + burns(59) + "burn x;", "take t once;");
        // What would be the 61st LINE and can't stand there.
        fault(1, sixty + "burn x;", "else;");
        fault(1, sixty + "burn x;", "end;");
        fault(1, sixty + "if 1;", "end;");
        fault(1, sixty + "if 1;", "give 1;");
        fault(1, "bill a;" + burns(58) + "if 1;else;", "else;");
        fault(1, sixty + "give 1;", "give 1;");
        fault(1, sixty + "give 1;", "let x once 1;");
        fault(1, sixty + "burn x;", "bill b;");
        fault(1, sixty + "burn x;", "wall");
        fault(1, sixty + "burn x;", "");
        fault(5, "bill a;" + burns(57) + "if 1;if 1;if 1;", "if 1;");
        // A wall's NAME that would be the eleventh SLIP, or is one too many.
        fault(3, "wall w 1;bill b;" + TEN + "let ", "w once 1;");
        fault(3, "wall w 1;bill b;" + TEN + "call b ", "w a as a;");
        fault(3, "wall w 1;bill b;" + TEN + "call b a b ", "w as a;");
        fault(3, "wall w 1;bill b;take ", "w once;");
        fault(2, "wall w 1;bill b;call ", "w as x;");
        // What can begin no PART, within 5 others; what is none.
        fault(1, "bill b;give (((((", ");");
        fault(1, "bill b;give (((((", "+1;");
        fault(1, "bill b;give (((((", "abcdefghi;");
        fault(1, "bill b;give not not not not not ", "12345;");
        fault(1, "bill b;" + TEN + "give ", "abcdefghi;");
        fault(1, bills, "bills e;");
        fault(5, "bill b;" + TEN + "give (((((", "k)))));");
    }

    private static void faultOne() {
        Shop.says("1 it is none, or can't stand there (wall behind a bill; a LINE outside of a bill, take behind another LINE,"
                + " else or end without its if, give or bill within an if, the end within a bill);");
        fault(1, "", "~");
        fault(1, "bill b;give 1;", "wall w 1;");
        fault(1, "bill b;", "wall w 1;");
        for (String line : new String[] {"take x once;", "let x once 1;", "twin x as y z;", "burn x;", "call b as x;",
            "if 1;", "else;", "end;", "give 1;"}) {
            fault(1, "", line);
            fault(1, "wall w 1;", line);
            fault(1, "bill b;give 1;", line);
        }
        for (String line : new String[] {"let x once 1;", "twin x as y z;", "burn x;", "call b as x;", "if 1;",
            "if 1;else;", "if 1;else;end;"}) {
            fault(1, "bill b;" + line, "take u once;");
            fault(1, "bill b;" + line, "bill c;");
            fault(1, "bill b;" + line, "");
        }
        good("bill b;take x once;take y once;let u once 1;give 1;");
        fault(1, "bill b;", "else;");
        fault(1, "bill b;", "end;");
        fault(1, "bill b;if 1;", "end;");
        fault(1, "bill b;if 1;else;", "else;");
        fault(1, "bill b;if 1;else;end;", "else;");
        fault(1, "bill b;if 1;", "give 1;");
        fault(1, "bill b;if 1;else;", "give 1;");
        fault(1, "bill b;if 1;", "bill c;");
        fault(1, "bill b;if 1;else;", "bill c;");
        fault(1, "bill b;", "");
        fault(1, "bill b;take x once;", "");
        fault(1, "bill b;give 1", "");
        good("bill b;give 1;");
    }

    private static void faultTwo() {
        Shop.says("2 behind call a NAME of no such bill;");
        fault(2, F + "call ", "g x as y;");
        fault(2, F + "call ", "x x as y;");
        fault(2, "wall w 1;" + F + "call ", "w x as y;");
        fault(2, F + "call ", "ff x as y;");
        fault(2, F + "call ", "g");
        fault(1, F + "call ", "5;");
        fault(1, F + "call ", "as y;");
        fault(1, F + "call ", "");
        good(F + "call f x as y;give y;");
        good(F + "call b x as y;give y;");
    }

    private static void faultThree() {
        Shop.says("3 a NAME that is told, behind wall, bill;");
        fault(3, "wall a 1;wall ", "a 1;");
        fault(3, "wall a 1;wall ", "a");
        fault(3, "wall a 1;bill ", "a;");
        fault(3, "bill a;give 1;bill ", "a;");
        good("wall x 1;bill a;let y once 1;give y;bill y;give x;");
        Shop.says("a wall's NAME behind take, let, as, burn, twin, or as one that is called with;");
        fault(3, "wall w 1;bill b;take ", "w once;");
        fault(3, "wall w 1;" + F + "let ", "w once 1;");
        fault(3, "wall w 1;" + F + "twin x as ", "w y;");
        fault(3, "wall w 1;" + F + "twin x as y ", "w;");
        fault(3, "wall w 1;" + F + "call f x as ", "w;");
        fault(3, "wall w 1;" + F + "burn ", "w;");
        fault(3, "wall w 1;" + F + "twin ", "w as x y;");
        fault(3, "wall w 1;" + F + "call f ", "w as y;");
        good("wall w 1;" + F + "if w;else;end;let y once w;give w*y;");
        Shop.says("a NAME behind take the second time in a bill;");
        fault(3, "bill b;take x once;take ", "x once;");
        fault(3, "bill b;take x once;take y once;take z once;take ", "x most;");
        fault(3, "bill b;take x most;take ", "x;");
        good("bill b;take x once;give x;bill c;take x once;give x;");
        good("bill b;take x once;take xx once;let x once x;give x+xx;");
    }

    private static void faultFour() {
        Shop.says("4 a NUMBER that is not as told (of wall: 0 to 9999 all are);");
        good("wall w 0;");
        good("wall w 9999;");
        good("wall w 0000;");
        fault(1, "wall w ", "10000;");
        fault(1, "wall w ", "-1;");
        fault(1, "wall w 0", "-1;");
        fault(1, "wall w ", "w;");
    }

    private static void faultFive() {
        Shop.says("5 one too many: the word wall of a fifth, bill of a fifth, take of a fifth in a bill,"
                + " the first word of a 61st LINE, if of a fourth deep;");
        String walls = "wall w 1;wall p 1;wall q 1;wall r 1;";
        good(walls + "bill b;give w+p+q+r;");
        fault(5, walls, "wall ;");
        String bills = "bill a;give 1;bill b;give 1;bill c;give 1;";
        good(bills + "bill d;give 1;");
        fault(5, bills + "bill d;give 1;", "bill ;");
        String takes = "bill b;take p once;take q once;take r once;";
        good(takes + "take s once;give 1;");
        fault(5, takes + "take s once;", "take ;");
        good("bill b;" + burns(59) + "give 1;");
        fault(5, "bill b;" + burns(60), "give ;");
        fault(5, "bill b;" + burns(60), "let ;");
        fault(5, "bill b;" + burns(59) + "give 1;bill c;", "give ;");
        good("bill b;if 1;if 2;if 3;else;end;else;end;else;end;give 1;");
        fault(5, "bill b;if 1;if 2;if 3;", "if ;");
        fault(5, "bill b;if 1;else;if 2;if 3;else;", "if ;");
    }

    private static void faultFiveInNames() {
        Shop.says("the NAME that is the eleventh SLIP of a bill;");
        good("bill b;" + TEN + "burn j;give 1;");
        fault(5, "bill b;" + TEN + "burn ", "k;");
        fault(5, "bill b;" + TEN + "give a*", "k+!;");
        fault(5, "bill k;give 1;bill b;" + TEN + "let i once ", "k;");
        Shop.says("not, or a PART, within 5 others;");
        good("bill b;give not not not not 1;");
        fault(5, "bill b;give not not not not not ", "1;");
        fault(5, "bill b;give (((((", "not 1)))));");
        fault(5, "bill b;give (((((", "(1))))));");
        fault(5, "bill b;give (((((", "x)))));");
        Shop.says("another count of NAMES behind call than it takes: at the first NAME too many (5), or at as (1).");
        fault(5, F + "call f x ", "y z as u;");
        fault(5, F + "call f x ", "y;");
        fault(1, F + "call f ", "as u;");
        fault(1, F + "call f ", ";");
        good(F + "call f x as u;give u;");
        fault(5, "bill b;" + TEN + "call b a b ", "k as a;");
        fault(1, "bill b;" + TEN + "call b a ", "as a;");
    }

    private static void billsFromThenOn() {
        Shop.says("Without a FAULT these are the BILLS from then on; the MACHINE stands (nothing is begun, STATUS and all of it 0),"
                + " MARKS are gone; ROOM and PRICE stay.");
        String[] next = {"bill n;give 3;", "", "wall v 1;"};
        for (String text : next) {
            for (int steps = 0; steps <= 3; steps++) {
                Shop shop = Shop.with("wall w 7;bill b;take x once;twin x as y z;let u once y+z;give u+w;");
                shop.slips.room(steps == 1 ? 1 : 60);
                shop.slips.price(0);
                shop.begin(0, 5);
                due("steps", shop.slips.run(steps), steps == 1 ? 1 : steps);
                due("status", shop.slips.machine(0), steps == 1 ? 3 : steps == 3 ? 2 : 1);
                for (int mark = 0; mark < 4; mark++) {
                    due("mark", shop.mark(mark, false), 1);
                }
                due("told", shop.tell(text), 0);
                shop.machineIs("0 -1 0 0 0 0 0 0");
                due("given", shop.given(), Shop.THROWS);
                due("slip", shop.slip(0), Shop.THROWS);
                due("run", shop.slips.run(5), 0);
                for (int mark = 0; mark < 4; mark++) {
                    due("mark is gone", shop.mark(mark, true), 0);
                }
                due("ROOM", shop.slips.count(3), steps == 1 ? 1 : 60);
                due("PRICE", shop.slips.count(4), 0);
                due("walls", shop.slips.count(0), text.startsWith("wall") ? 1 : 0);
                due("bills", shop.slips.count(1), text.startsWith("bill") ? 1 : 0);
                due("LINES", shop.slips.count(2), text.startsWith("bill") ? 1 : 0);
                due("gives", shop.free(0), text.startsWith("bill") ? 3 : Shop.THROWS);
            }
        }
    }

    /** What was told ahead, with a FAULT or without, is in no one's way: all that there is room for is there again. */
    private static void toldAgain() {
        Shop shop = new Shop();
        String sum = "a+".repeat(40) + "a";
        String sixty = "bill b;take a most;let c most " + sum + ";" + "burn c;".repeat(57) + "give " + sum + ";";
        String walls = "wall w 1;wall p 2;wall q 3;wall r 4;";
        String four = walls + "bill a;if 1;else;end;give w;bill b;give p;bill c;give q;bill d;give r;";
        for (int round = 0; round < 5; round++) {
            due("sixty LINES", shop.tell(sixty), 0);
            due("LINES", shop.slips.count(2), 60);
            due("walls", shop.slips.count(0), 0);
            due("bills", shop.slips.count(1), 1);
            due("reads", shop.slips.line(59, 3), 41);
            String ahead = walls + "bill x;take a once;let k once " + sum + ";burn ";
            due("a FAULT", shop.tell(ahead + ";"), 1 + 16 * ahead.length());
            due("four bills", shop.tell(four), 0);
            due("LINES", shop.slips.count(2), 7);
            due("walls", shop.slips.count(0), 4);
            due("bills", shop.slips.count(1), 4);
            for (int line = 1; line < 7; line++) {
                due("no reads", shop.slips.line(line, 3), 0);
            }
            for (int bill = 0; bill < 4; bill++) {
                due("its wall", shop.free(bill), bill + 1);
                due("no SLIPS", shop.slips.bill(bill, 3), 0);
            }
        }
    }

    private static void allElseStays() {
        Shop.says("0, or their FAULT (all else stays then).");
        Shop shop = Shop.with("wall w 7;bill b;take x once;take y most;let u once x+w;give u;bill c;take x most;let y most 1;give 2;");
        shop.slips.room(50);
        shop.slips.price(20);
        shop.begin(0, 5, 6);
        shop.slips.run(1);
        due("mark", shop.mark(3, false), 1);
        String there = shop.all();
        String[] faulty = {"1 bill c;let a most 1;let b most 2;let c most 3;give (|;",
            "2 bill c;take p once;take q once;call |d as x;", "3 wall z 3;wall y 4;bill |y;",
            "3 wall z 3;bill c;take |z once;", "5 bill c;give 1;bill d;take a once;let b once a;give (((((|1",
            "5 wall a 1;wall b 2;wall c 3;wall d 4;|wall e 5;", "1 |!", "1 bill c;give 1;bill d;|",
            "1 bill e;if 1;if 1;if 1;else;end;|"};
        for (String told : faulty) {
            int place = told.indexOf('|') - 2;
            String text = told.substring(2).replace("|", "");
            due("FAULT of " + told, shop.tell(text), told.charAt(0) - '0' + 16 * place);
            shop.allIs("behind the FAULT of " + told, there);
        }
        due("the rest of it", shop.slips.run(5), 1);
        due("given", shop.given(), 12);
        due("back", shop.mark(3, true), 1);
        shop.allIs("behind mark", there);
        due("FREE", shop.free(1, 1), 2);
        due("good again", shop.tell("bill q;give 8;"), 0);
        due("FREE of it", shop.free(0), 8);
    }

    private static void counts() {
        Shop.says("What 0: walls, 1: bills, 2: LINES, 3: ROOM, 4: PRICE, 5: signs on the TAPE. NONE for another what.");
        Shop shop = Shop.with("wall p 1;wall q 2;wall r 3;bill a;take x once;give x;bill b;give 1;");
        shop.slips.room(77);
        shop.slips.price(66);
        shop.feed("bill \n!");
        int[] want = {3, 2, 3, 77, 66, 7};
        for (int what = 0; what < 6; what++) {
            due("count " + what, shop.slips.count(what), want[what]);
        }
        for (int what : new int[] {-1, 6, HIGH, LOW}) {
            due("count " + what, shop.slips.count(what), -1);
        }
    }
}
