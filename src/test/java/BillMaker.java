import java.util.ArrayList;
import java.util.List;
import java.util.Map;
import java.util.Random;
import java.util.TreeMap;

/** Makes texts of bills, most of them such that pass, some of them with faults. */
final class BillMaker {
    private final Random random;
    private final StringBuilder text = new StringBuilder();
    private final List<String> walls = new ArrayList<>();
    private final List<String> bills = new ArrayList<>();
    private final List<Integer> takes = new ArrayList<>();
    private int noise;
    private int fresh;
    private int linesLeft;

    BillMaker(Random random) {
        this.random = random;
    }

    private boolean oneIn(int n) {
        return random.nextInt(n) == 0;
    }

    /** Now and then something wrong. */
    private boolean slipsUp() {
        return noise > 0 && oneIn(noise);
    }

    String make() {
        noise = oneIn(3) ? 12 : oneIn(4) ? 60 : 0;
        text.setLength(0);
        walls.clear();
        bills.clear();
        takes.clear();
        linesLeft = 56;
        for (int k = random.nextInt(4); k > 0; k--) {
            String name = "w" + (char) ('a' + walls.size());
            say("wall ", name, " ", Integer.toString(random.nextInt(oneIn(2) ? 4 : 10000)), ";");
            walls.add(name);
        }
        int count = oneIn(20) ? 0 : 1 + random.nextInt(4);
        for (int k = 0; k < count; k++) {
            makeBill(k == 0 ? "f" : k == 1 ? "g" : k == 2 ? "hh" : "burner");
        }
        String made = text.toString();
        return oneIn(3) ? mutate(made) : made;
    }

    /** A PLAIN bill, most often. */
    String makePlain(int mostSums) {
        noise = 0;
        text.setLength(0);
        walls.clear();
        say("bill p;");
        List<String> there = new ArrayList<>();
        int taken = random.nextInt(4);
        int sums = random.nextInt(mostSums + 1);
        for (int k = 0; k < taken; k++) {
            there.add("" + (char) ('a' + k));
            say("take ", there.get(k), oneIn(2) ? " once;" : " most;");
        }
        for (int k = 0; k < sums; k++) {
            String name = "" + (char) ('a' + there.size());
            say("let ", name, oneIn(2) ? " once " : " most ");
            sayPlainSum(there);
            there.add(name);
        }
        say("give ");
        sayPlainSum(there);
        return oneIn(20) ? mutate(text.toString()) : text.toString();
    }

    private void sayPlainSum(List<String> there) {
        int parts = 1 + random.nextInt(4);
        for (int k = 0; k < parts; k++) {
            boolean reads = !there.isEmpty() && !oneIn(4);
            say(k == 0 ? "" : oneIn(2) ? "+" : "*", reads ? there.get(random.nextInt(there.size())) : "2");
        }
        say(";");
    }

    private void say(String... parts) {
        for (String part : parts) {
            text.append(part);
        }
    }

    private void line(String... parts) {
        say(parts);
        say(oneIn(9) ? " ;\n" : ";");
        linesLeft--;
    }

    private String fresh() {
        fresh = (fresh + 1) % (slipsUp() ? 12 : 9);
        return "" + (char) ('a' + fresh);
    }

    private String newName(TreeMap<String, Boolean> table) {
        String name = fresh();
        for (int k = 0; k < 10 && table.containsKey(name); k++) {
            name = fresh();
        }
        return name;
    }

    private void makeBill(String name) {
        say("bill ", name, ";");
        TreeMap<String, Boolean> table = new TreeMap<>();
        int taken = random.nextInt(slipsUp() ? 6 : 4);
        fresh = -1;
        for (int k = 0; k < taken; k++) {
            String slip = newName(table);
            boolean once = oneIn(2);
            line("take ", slip, once ? " once" : " most");
            table.put(slip, once);
        }
        bills.add(name);
        takes.add(taken);
        makeBlock(table, 0, 1 + random.nextInt(9));
        if (slipsUp()) {
            return;
        }
        // What must be read is read at the end.
        StringBuilder sum = new StringBuilder(sum(table, 3));
        for (Map.Entry<String, Boolean> slip : new TreeMap<>(table).entrySet()) {
            if (slip.getValue() && !slipsUp()) {
                sum.append(oneIn(3) ? "-" : "+").append(slip.getKey());
            }
        }
        line("give ", sum.toString());
    }

    private void makeBlock(TreeMap<String, Boolean> table, int deep, int count) {
        for (int k = 0; k < count && linesLeft > 6 && text.length() < 900; k++) {
            switch (random.nextInt(8)) {
                case 0:
                case 1:
                case 2:
                    makeLet(table);
                    break;
                case 3:
                    makeTwin(table);
                    break;
                case 4:
                    String burnt = read(table);
                    if (burnt != null) {
                        line("burn ", burnt);
                    }
                    break;
                case 5:
                    makeCall(table);
                    break;
                default:
                    if (deep < (slipsUp() ? 4 : 3)) {
                        makeIf(table, deep);
                    }
                    break;
            }
        }
    }

    private void makeLet(TreeMap<String, Boolean> table) {
        String sum = sum(table, 4);
        String name = newName(table);
        boolean once = oneIn(2);
        line("let ", name, once ? " once " : " most ", sum);
        table.put(name, once);
    }

    private void makeTwin(TreeMap<String, Boolean> table) {
        String read = read(table);
        if (read != null) {
            String one = newName(table);
            table.put(one, true);
            String other = newName(table);
            table.put(other, true);
            line("twin ", read, " as ", one, " ", other);
        }
    }

    private void makeCall(TreeMap<String, Boolean> table) {
        int called = random.nextInt(bills.size());
        if (called == bills.size() - 1 && !oneIn(4)) {
            called = random.nextInt(bills.size());
        }
        int wanted = takes.get(called) + (slipsUp() ? random.nextInt(3) - 1 : 0);
        if (wanted > table.size() && !slipsUp()) {
            return;
        }
        StringBuilder args = new StringBuilder();
        for (int k = 0; k < wanted; k++) {
            String slip = read(table);
            args.append(" ").append(slip == null ? fresh() : slip);
        }
        String name = newName(table);
        table.put(name, true);
        line("call ", slipsUp() ? "nobill" : bills.get(called), args.toString(), " as ", name);
    }

    private void makeIf(TreeMap<String, Boolean> table, int deep) {
        line("if ", sum(table, 3));
        TreeMap<String, Boolean> other = new TreeMap<>(table);
        int keptFresh = fresh;
        makeBlock(table, deep + 1, random.nextInt(4));
        burnUnlike(table, other, true);
        line("else");
        if (oneIn(2)) {
            fresh = keptFresh;
        }
        makeBlock(other, deep + 1, random.nextInt(4));
        burnUnlike(other, table, false);
        burnAgain(other, table);
        if (!slipsUp()) {
            line("end");
        }
        table.keySet().retainAll(other.keySet());
    }

    /** Makes away with what must be read and is not on the other table, or by chance. */
    private void burnUnlike(TreeMap<String, Boolean> table, TreeMap<String, Boolean> other, boolean early) {
        for (String slip : new ArrayList<>(table.keySet())) {
            Boolean there = other.get(slip);
            boolean unlike = there == null ? table.get(slip) : !there.equals(table.get(slip));
            if (unlike && !slipsUp() || early && oneIn(9)) {
                line("burn ", slip);
                table.remove(slip);
            }
        }
    }

    /** Lays in the second branch what must be there as well, since the first one has been told. */
    private void burnAgain(TreeMap<String, Boolean> table, TreeMap<String, Boolean> first) {
        for (String slip : first.keySet()) {
            if (first.get(slip) && !table.containsKey(slip) && !slipsUp()) {
                line("let ", slip, " once ", Integer.toString(random.nextInt(9)));
                table.put(slip, true);
            }
        }
    }

    private String read(TreeMap<String, Boolean> table) {
        if (slipsUp()) {
            return fresh();
        }
        if (table.isEmpty()) {
            return null;
        }
        List<String> names = new ArrayList<>(table.keySet());
        String name = names.get(random.nextInt(names.size()));
        table.remove(name);
        return name;
    }

    private String sum(TreeMap<String, Boolean> table, int size) {
        StringBuilder sum = new StringBuilder();
        sayTests(sum, table, size, 0);
        return sum.toString();
    }

    private void sayTests(StringBuilder sum, TreeMap<String, Boolean> table, int size, int within) {
        int parts = 1 + random.nextInt(Math.max(1, size));
        boolean compared = false;
        for (int k = 0; k < parts; k++) {
            if (k > 0) {
                String sign = new String[] {"+", "-", "*", " and ", " or ", "<", "="}[random.nextInt(7)];
                if (sign.equals("<") || sign.equals("=")) {
                    sign = compared && !slipsUp() ? "+" : sign;
                    compared = true;
                } else if (sign.startsWith(" ")) {
                    compared = false;
                }
                sum.append(sign);
            }
            sayPart(sum, table, within);
        }
    }

    private void sayPart(StringBuilder sum, TreeMap<String, Boolean> table, int within) {
        int most = slipsUp() ? 6 : 5;
        int way = random.nextInt(12);
        if (way == 0 && within < most) {
            sum.append("not ");
            sayPart(sum, table, within + 1);
        } else if (way <= 2 && within < most) {
            sum.append("(");
            sayTests(sum, table, 2, within + 1);
            sum.append(oneIn(9) ? " )" : ")");
        } else if (way <= 6) {
            String name = read(table);
            sum.append(name == null ? "5" : name);
        } else if (way == 7 && !walls.isEmpty()) {
            sum.append(walls.get(random.nextInt(walls.size())));
        } else {
            sum.append(random.nextInt(oneIn(5) ? 10000 : 6));
        }
    }

    private static final String[] BITS = {
        ";", "(", ")", "<", "=", "+", "-", "*", "not", "and", "or", "wall", "bill", "take", "let",
        "twin", "as", "burn", "call", "if", "else", "end", "give", "once", "most", "a", "b", "wa",
        "f", "g", "12", "12345", "abcdefgh", "abcdefghi", "!", "A", " ", "\n", "1", "x", "yy"};

    /** Changes a token of a text, or takes one out, or puts one in. */
    private String mutate(String made) {
        List<Oracle.Token> tokens = Oracle.tokensOf(made);
        Oracle.Token token = tokens.get(random.nextInt(tokens.size()));
        int from = token.place;
        int stop = token.text.equals("END") ? from : from + Math.max(1, token.text.equals("NONE") ? 1 : token.text.length());
        String bit = BITS[random.nextInt(BITS.length)];
        switch (random.nextInt(4)) {
            case 0:
                return made.substring(0, from) + made.substring(stop);
            case 1:
                return made.substring(0, from) + " " + bit + " " + made.substring(from);
            case 2:
                return made.substring(0, from) + bit + made.substring(stop);
            default:
                return made.substring(0, from);
        }
    }
}
