import java.util.ArrayList;
import java.util.Arrays;
import java.util.HashMap;
import java.util.HashSet;
import java.util.List;
import java.util.Map;
import java.util.Set;
import java.util.TreeMap;

/**
 * The document told a second time, in the plainest and slowest way: trees, maps, all ways, all
 * orders. Tests hold BurningSlips against it.
 */
final class Oracle {
    static final Set<String> RESERVED = new HashSet<>(Arrays.asList(
            "wall", "bill", "take", "once", "most", "give", "let", "twin", "as", "burn", "call",
            "if", "else", "end", "not", "and", "or"));
    static final String[] KINDS = {"take", "let", "twin", "burn", "call", "if", "else", "end", "give"};

    static final class Fault extends Exception {
        final int number;

        Fault(int kind, int place) {
            super("fault");
            number = kind + 16 * place;
        }
    }

    static final class Token {
        String text;
        int place;

        boolean isNumber() {
            return text.matches("[0-9]{1,4}");
        }

        boolean isName() {
            return text.matches("[a-z]{1,8}") && !RESERVED.contains(text);
        }
    }

    /** A part of an E. */
    static final class Sum {
        String sign;
        int number;
        int slip = -1;
        Sum left;
        Sum right;

        void readings(List<Integer> into) {
            if (slip >= 0) {
                into.add(slip);
            }
            if (left != null) {
                left.readings(into);
            }
            if (right != null) {
                right.readings(into);
            }
        }

        int worth(Map<Integer, Integer> says) {
            if (sign.equals("number")) {
                return number;
            }
            if (sign.equals("slip")) {
                return says.get(slip);
            }
            int a = left.worth(says);
            if (sign.equals("not")) {
                return a == 0 ? 1 : 0;
            }
            int b = right.worth(says);
            switch (sign) {
                case "+": return a + b;
                case "-": return a - b;
                case "*": return a * b;
                case "<": return a < b ? 1 : 0;
                case "=": return a == b ? 1 : 0;
                case "and": return a != 0 && b != 0 ? 1 : 0;
                default: return a != 0 || b != 0 ? 1 : 0;
            }
        }
    }

    static final class Line {
        int number;
        String kind;
        int laid = -1;
        int besides = -1;
        boolean once = true;
        int called = -1;
        List<Integer> readings = new ArrayList<>();
        Sum sum;
        int elseNumber = -1;
        int endNumber = -1;
        List<Line> thenLines;
        List<Line> elseLines;
        Set<Integer> goneThen = new HashSet<>();
        Set<Integer> goneElse = new HashSet<>();
    }

    static final class Bill {
        int number;
        String name;
        int first;
        int count;
        int taken;
        List<String> slips = new ArrayList<>();
        List<Line> lines = new ArrayList<>(); // in one another; of an if with both branches
        int wrong;
        int wrongLine = -1;
        int wrongSlip = -1;
        boolean sound;
        Set<Integer> calls = new HashSet<>();
    }

    final List<String> wallNames = new ArrayList<>();
    final List<Integer> wallNumbers = new ArrayList<>();
    final List<Bill> bills = new ArrayList<>();
    final List<Line> flat = new ArrayList<>();

    private List<Token> tokens;
    private int next;
    private Bill bill;

    /** Reads a text; the fault, or 0. */
    static int tryRead(String text, Oracle into) {
        try {
            into.read(text);
            return 0;
        } catch (Fault fault) {
            return fault.number;
        }
    }

    static List<Token> tokensOf(String text) {
        List<Token> tokens = new ArrayList<>();
        int at = 0;
        while (true) {
            while (at < text.length() && (text.charAt(at) == ' ' || text.charAt(at) == '\n')) {
                at++;
            }
            Token token = new Token();
            token.place = at;
            tokens.add(token);
            if (at == text.length()) {
                token.text = "END";
                return tokens;
            }
            int stop = at + 1;
            String type = text.substring(at, stop).matches("[a-z]") ? "[a-z]+" : text.substring(at, stop).matches("[0-9]") ? "[0-9]+" : ".";
            while (stop < text.length() && text.substring(at, stop + 1).matches(type)) {
                stop++;
            }
            token.text = text.substring(at, stop);
            if (!token.text.matches("[a-z]{1,8}|[0-9]{1,4}|[()<=+*;-]")) {
                token.text = "NONE";
            }
            at = stop;
        }
    }

    private Token look() {
        return tokens.get(next);
    }

    private boolean sees(String text) {
        return look().text.equals(text);
    }

    private Fault fault(int kind) {
        return new Fault(kind, look().place);
    }

    private void want(String text) throws Fault {
        if (!sees(text)) {
            throw fault(1);
        }
        next++;
    }

    private String wantName() throws Fault {
        if (!look().isName()) {
            throw fault(1);
        }
        return look().text;
    }

    private Bill billOf(String name) {
        for (Bill b : bills) {
            if (b.name.equals(name)) {
                return b;
            }
        }
        return null;
    }

    private void read(String text) throws Fault {
        tokens = tokensOf(text);
        while (sees("wall")) {
            if (wallNames.size() == 4) {
                throw fault(5);
            }
            next++;
            String name = wantName();
            if (wallNames.contains(name)) {
                throw fault(3);
            }
            next++;
            if (!look().isNumber()) {
                throw fault(1);
            }
            wallNames.add(name);
            wallNumbers.add(Integer.parseInt(look().text));
            next++;
            want(";");
        }
        while (sees("bill")) {
            if (bills.size() == 4) {
                throw fault(5);
            }
            next++;
            String name = wantName();
            if (wallNames.contains(name) || billOf(name) != null) {
                throw fault(3);
            }
            next++;
            want(";");
            bill = new Bill();
            bill.number = bills.size();
            bill.name = name;
            bill.first = flat.size();
            bills.add(bill);
            readTakes();
            readBlock(bill.lines, 0);
            if (!sees("give")) {
                throw fault(1);
            }
            Line give = newLine();
            give.sum = readSum(give);
            want(";");
            bill.lines.add(give);
            bill.count = flat.size() - bill.first;
        }
        if (!sees("END")) {
            throw fault(1);
        }
        for (Bill b : bills) {
            check(b);
        }
    }

    private Line newLine() throws Fault {
        if (flat.size() == 60) {
            throw fault(5);
        }
        Line line = new Line();
        line.kind = look().text;
        line.number = flat.size();
        flat.add(line);
        next++;
        return line;
    }

    private void readTakes() throws Fault {
        Set<String> names = new HashSet<>();
        while (sees("take")) {
            if (bill.taken == 4) {
                throw fault(5);
            }
            Line line = newLine();
            if (look().isName() && !names.add(look().text)) {
                throw fault(3);
            }
            line.laid = readSlip();
            line.once = readOnce();
            want(";");
            bill.taken++;
            bill.lines.add(line);
        }
    }

    private boolean readOnce() throws Fault {
        if (!sees("once") && !sees("most")) {
            throw fault(1);
        }
        boolean once = sees("once");
        next++;
        return once;
    }

    private int readSlip() throws Fault {
        String name = wantName();
        if (wallNames.contains(name)) {
            throw fault(3);
        }
        return slipNamed(name);
    }

    private int slipNamed(String name) throws Fault {
        if (!bill.slips.contains(name)) {
            if (bill.slips.size() == 10) {
                throw fault(5);
            }
            bill.slips.add(name);
        }
        next++;
        return bill.slips.indexOf(name);
    }

    private void readBlock(List<Line> into, int deep) throws Fault {
        while (true) {
            if (sees("let")) {
                Line line = newLine();
                into.add(line);
                line.laid = readSlip();
                line.once = readOnce();
                line.sum = readSum(line);
                want(";");
            } else if (sees("twin")) {
                Line line = newLine();
                into.add(line);
                line.readings.add(readSlip());
                want("as");
                line.laid = readSlip();
                line.besides = readSlip();
                want(";");
            } else if (sees("burn")) {
                Line line = newLine();
                into.add(line);
                line.readings.add(readSlip());
                want(";");
            } else if (sees("call")) {
                Line line = newLine();
                into.add(line);
                Bill called = billOf(wantName());
                if (called == null) {
                    throw fault(2);
                }
                next++;
                line.called = called.number;
                bill.calls.add(called.number);
                while (look().isName()) {
                    if (wallNames.contains(look().text)) {
                        throw fault(3);
                    }
                    if (line.readings.size() == called.taken) {
                        throw fault(5);
                    }
                    line.readings.add(readSlip());
                }
                if (!sees("as") || line.readings.size() < called.taken) {
                    throw fault(1);
                }
                next++;
                line.laid = readSlip();
                want(";");
            } else if (sees("if")) {
                if (deep == 3) {
                    throw fault(5);
                }
                Line line = newLine();
                into.add(line);
                line.sum = readSum(line);
                want(";");
                line.thenLines = new ArrayList<>();
                readBlock(line.thenLines, deep + 1);
                if (!sees("else")) {
                    throw fault(1);
                }
                line.elseNumber = newLine().number;
                want(";");
                line.elseLines = new ArrayList<>();
                readBlock(line.elseLines, deep + 1);
                if (!sees("end")) {
                    throw fault(1);
                }
                line.endNumber = newLine().number;
                want(";");
            } else {
                return;
            }
        }
    }

    private Sum readSum(Line line) throws Fault {
        Sum sum = readTests(0);
        sum.readings(line.readings);
        return sum;
    }

    private Sum joined(Sum left, String sign, Sum right) {
        Sum sum = new Sum();
        sum.sign = sign;
        sum.left = left;
        sum.right = right;
        return sum;
    }

    private Sum readTests(int within) throws Fault {
        Sum sum = readTest(within);
        while (sees("and") || sees("or")) {
            String sign = tokens.get(next++).text;
            sum = joined(sum, sign, readTest(within));
        }
        return sum;
    }

    private Sum readTest(int within) throws Fault {
        Sum sum = readPlus(within);
        if (sees("<") || sees("=")) {
            String sign = tokens.get(next++).text;
            sum = joined(sum, sign, readPlus(within));
        }
        return sum;
    }

    private Sum readPlus(int within) throws Fault {
        Sum sum = readTimes(within);
        while (sees("+") || sees("-")) {
            String sign = tokens.get(next++).text;
            sum = joined(sum, sign, readTimes(within));
        }
        return sum;
    }

    private Sum readTimes(int within) throws Fault {
        Sum sum = readPart(within);
        while (sees("*")) {
            next++;
            sum = joined(sum, "*", readPart(within));
        }
        return sum;
    }

    private Sum readPart(int within) throws Fault {
        Token token = look();
        boolean wraps = sees("not") || sees("(");
        if (!wraps && !token.isNumber() && !token.isName()) {
            throw fault(1);
        }
        if (within == 5) {
            throw fault(5);
        }
        Sum sum = new Sum();
        if (sees("not")) {
            next++;
            return joined(readPart(within + 1), "not", null);
        }
        if (sees("(")) {
            next++;
            sum = readTests(within + 1);
            want(")");
            return sum;
        }
        sum.sign = "number";
        if (token.isNumber()) {
            sum.number = Integer.parseInt(token.text);
            next++;
        } else if (wallNames.contains(token.text)) {
            sum.number = wallNumbers.get(wallNames.indexOf(token.text));
            next++;
        } else {
            sum.sign = "slip";
            sum.slip = slipNamed(token.text);
        }
        return sum;
    }

    // CHECK

    static final class Wrong extends Exception {
        final int kind;
        final int line;
        final int slip;

        Wrong(int kind, int line, int slip) {
            super("wrong");
            this.kind = kind;
            this.line = line;
            this.slip = slip;
        }
    }

    private void check(Bill b) {
        try {
            checkBlock(b.lines, new TreeMap<>());
        } catch (Wrong wrong) {
            b.wrong = wrong.kind;
            b.wrongLine = wrong.line;
            b.wrongSlip = wrong.slip;
        }
        b.sound = b.wrong == 0;
        for (int called : b.calls) {
            b.sound &= called == b.number || bills.get(called).sound;
        }
    }

    private void checkBlock(List<Line> block, TreeMap<Integer, Boolean> table) throws Wrong {
        for (Line line : block) {
            for (int slip : line.readings) {
                if (table.remove(slip) == null) {
                    throw new Wrong(1, line.number, slip);
                }
            }
            for (int slip : new int[] {line.laid, line.besides}) {
                if (slip >= 0 && table.put(slip, line.once) != null) {
                    throw new Wrong(2, line.number, slip);
                }
            }
            if (line.kind.equals("if")) {
                TreeMap<Integer, Boolean> other = new TreeMap<>(table);
                checkBlock(line.thenLines, table);
                checkBlock(line.elseLines, other);
                for (int slip = 0; slip < 10; slip++) {
                    Boolean a = table.get(slip);
                    Boolean b = other.get(slip);
                    if (a != null && b != null && !a.equals(b)
                            || a == null && b != null && b || b == null && a != null && a) {
                        throw new Wrong(3, line.endNumber, slip);
                    }
                    if (a != null && b == null) {
                        line.goneThen.add(slip);
                        table.remove(slip);
                    }
                    if (b != null && a == null) {
                        line.goneElse.add(slip);
                    }
                }
            }
            if (line.kind.equals("give")) {
                for (int slip : table.keySet()) {
                    if (table.get(slip)) {
                        throw new Wrong(4, line.number, slip);
                    }
                }
            }
        }
    }

    // MACHINE

    static final class Stop extends Exception {
        Stop() {
            super("stop");
        }
    }

    /** What the machine tells, and the slips of the bill that is worked. */
    static final class State {
        int[] told = new int[8];
        Map<Integer, Integer> slips = new HashMap<>();
        int gift;
    }

    /** A whole run of a bill, a state for each step, the beginning first. */
    final class Run {
        final List<State> states = new ArrayList<>();
        final int[] rooms;
        final int[] prices;
        private final int most;
        private final List<Map<Integer, Integer>> tables = new ArrayList<>();
        private int status = 1;
        private int highest;
        private int ash;
        private int coin;
        private int steps;
        private int gift;

        /** Rooms and prices by step (0 is the beginning). */
        Run(Bill b, int[] numbers, int[] rooms, int[] prices) {
            this.rooms = rooms;
            this.prices = prices;
            this.most = rooms.length - 1;
            try {
                gift = work(b, numbers, true);
                // The last give has been told by then.
            } catch (Stop stop) {
                // All states are there.
            }
        }

        private void tell(int nextLine) throws Stop {
            int lying = 0;
            for (Map<Integer, Integer> table : tables) {
                lying += table.size();
            }
            highest = Math.max(highest, lying);
            if (status == 1 && lying > rooms[steps]) {
                status = 3;
            }
            State state = new State();
            state.told = new int[] {status, status == 1 ? nextLine : -1, lying, highest, ash, coin, steps, tables.size()};
            state.gift = gift;
            if (!tables.isEmpty()) {
                state.slips = new HashMap<>(tables.get(tables.size() - 1));
            }
            states.add(state);
            if (status != 1 || steps == most) {
                throw new Stop();
            }
        }

        private int pending = -1; // the line that a step has been worked of and is not told

        private void step(int line) throws Stop {
            if (pending >= 0) {
                pending = -1;
                tell(line);
            }
            steps++;
            pending = line;
        }

        private int work(Bill b, int[] numbers, boolean first) throws Stop {
            Map<Integer, Integer> table = new HashMap<>();
            for (int k = 0; k < b.taken; k++) {
                table.put(k, numbers[k]);
            }
            tables.add(table);
            if (first) {
                pending = 0;
            }
            int number = workBlock(b.lines, table);
            return number;
        }

        private int workBlock(List<Line> block, Map<Integer, Integer> table) throws Stop {
            for (Line line : block) {
                if (line.kind.equals("take")) {
                    continue;
                }
                if (line.called >= 0 && tables.size() == 16) {
                    step(line.number); // tells what was before
                    steps--;
                    pending = -1;
                    status = 4;
                    // The step before has been told as going on; this is a try that worked nothing.
                    State last = states.get(states.size() - 1);
                    State state = new State();
                    state.told = last.told.clone();
                    state.told[0] = 4;
                    state.told[1] = -1;
                    states.add(state);
                    throw new Stop();
                }
                step(line.number);
                int number = 0;
                if (line.sum != null) {
                    number = line.sum.worth(table);
                }
                int[] args = new int[4];
                for (int k = 0; k < line.readings.size(); k++) {
                    int says = table.remove(line.readings.get(k));
                    ash++;
                    if (k < 4) {
                        args[k] = says;
                    }
                }
                switch (line.kind) {
                    case "let":
                        table.put(line.laid, number);
                        break;
                    case "twin":
                        table.put(line.laid, args[0]);
                        table.put(line.besides, args[0]);
                        coin += prices[steps];
                        break;
                    case "call":
                        int given = work(bills.get(line.called), args, false);
                        table.put(line.laid, given);
                        break;
                    case "if":
                        boolean yes = number != 0;
                        workBlock(yes ? line.thenLines : line.elseLines, table);
                        step(yes ? line.elseNumber : line.endNumber);
                        for (int slip : yes ? line.goneThen : line.goneElse) {
                            table.remove(slip);
                            ash++;
                        }
                        break;
                    case "give":
                        ash += table.size();
                        tables.remove(tables.size() - 1);
                        if (tables.isEmpty()) {
                            status = 2;
                            gift = number;
                            tell(-1);
                        }
                        return number;
                    default:
                        break;
                }
            }
            return 0;
        }
    }

    // FREE

    private int freeLines;

    /** What a bill gives, null: nothing. */
    Integer free(Bill b, int[] numbers) {
        freeLines = 0;
        try {
            return freeBill(b, numbers, 1);
        } catch (Stop stop) {
            return null;
        }
    }

    private Integer freeBill(Bill b, int[] numbers, int deep) throws Stop {
        if (deep > 16) {
            throw new Stop();
        }
        Map<Integer, Integer> says = new HashMap<>();
        for (int k = 0; k < b.taken; k++) {
            says.put(k, numbers[k]);
        }
        return freeBlock(b.lines, says, deep);
    }

    private void freeLine() throws Stop {
        freeLines++;
        if (freeLines > 3000) {
            throw new Stop();
        }
    }

    private Integer freeBlock(List<Line> block, Map<Integer, Integer> says, int deep) throws Stop {
        for (Line line : block) {
            if (line.kind.equals("take")) {
                continue;
            }
            freeLine();
            if (line.kind.equals("burn")) {
                continue;
            }
            int[] args = new int[4];
            for (int k = 0; k < line.readings.size(); k++) {
                Integer number = says.get(line.readings.get(k));
                if (number == null) {
                    throw new Stop();
                }
                if (k < 4) {
                    args[k] = number;
                }
            }
            int number = line.sum == null ? args[0] : line.sum.worth(says);
            if (line.kind.equals("give")) {
                return number;
            }
            if (line.kind.equals("call")) {
                number = freeBill(bills.get(line.called), args, deep + 1);
            }
            if (line.kind.equals("if")) {
                freeBlock(number != 0 ? line.thenLines : line.elseLines, says, deep);
                freeLine();
            }
            if (line.laid >= 0) {
                says.put(line.laid, number);
            }
            if (line.besides >= 0) {
                says.put(line.besides, number);
            }
        }
        return null;
    }

    // WAYS

    /** A way: {lines, then reads by slip, then laid by slip}. */
    List<int[]> ways(Bill b) {
        List<int[]> ways = new ArrayList<>();
        ways.add(new int[21]);
        return through(b.lines, ways);
    }

    private List<int[]> through(List<Line> block, List<int[]> ways) {
        List<int[]> now = ways;
        for (Line line : block) {
            List<int[]> then = new ArrayList<>();
            for (int[] way : now) {
                int[] more = way.clone();
                more[0] += line.kind.equals("take") ? 0 : 1;
                for (int slip : line.readings) {
                    more[1 + slip]++;
                }
                if (line.laid >= 0) {
                    more[11 + line.laid]++;
                }
                if (line.besides >= 0) {
                    more[11 + line.besides]++;
                }
                then.add(more);
            }
            now = then;
            if (line.kind.equals("if")) {
                List<int[]> both = new ArrayList<>(through(line.thenLines, now));
                both.addAll(through(line.elseLines, now));
                now = new ArrayList<>();
                for (int[] way : both) {
                    int[] more = way.clone();
                    more[0]++;
                    now.add(more);
                }
            }
        }
        return now;
    }

    /** {fewest twins, most twins, fewest burnings, most burnings}. */
    int[] needs(Bill b) {
        boolean[] once = new boolean[10];
        for (int k = b.first; k < b.first + b.count; k++) {
            Line line = flat.get(k);
            if (line.laid >= 0 && line.once) {
                once[line.laid] = true;
            }
            if (line.besides >= 0) {
                once[line.besides] = true;
            }
        }
        int[] needs = {Integer.MAX_VALUE, 0, Integer.MAX_VALUE, 0};
        for (int[] way : ways(b)) {
            int twins = 0;
            int burnings = 0;
            for (int slip = 0; slip < 10; slip++) {
                twins += Math.max(0, way[1 + slip] - way[11 + slip]);
                burnings += once[slip] ? Math.max(0, way[11 + slip] - way[1 + slip]) : 0;
            }
            needs[0] = Math.min(needs[0], twins);
            needs[1] = Math.max(needs[1], twins);
            needs[2] = Math.min(needs[2], burnings);
            needs[3] = Math.max(needs[3], burnings);
        }
        return needs;
    }

    // PLAIN

    boolean isPlain(Bill b) {
        Set<Integer> there = new HashSet<>();
        for (Line line : b.lines) {
            if (!Arrays.asList("take", "let", "give").contains(line.kind)) {
                return false;
            }
            if (!there.containsAll(line.readings)) {
                return false;
            }
            if (line.laid >= 0 && !there.add(line.laid)) {
                return false;
            }
        }
        return true;
    }

    List<Line> sums(Bill b) {
        List<Line> sums = new ArrayList<>();
        for (Line line : b.lines) {
            if (line.kind.equals("let")) {
                sums.add(line);
            }
        }
        return sums;
    }

    /** All orders, the least first. */
    List<List<Integer>> allOrders(Bill b) {
        List<List<Integer>> all = new ArrayList<>();
        List<Line> sums = sums(b);
        extend(sums, new ArrayList<>(), all);
        return all;
    }

    private void extend(List<Line> sums, List<Integer> order, List<List<Integer>> all) {
        if (order.size() == sums.size()) {
            all.add(new ArrayList<>(order));
            return;
        }
        for (int k = 0; k < sums.size(); k++) {
            if (order.contains(k)) {
                continue;
            }
            boolean may = true;
            for (int j = 0; j < sums.size(); j++) {
                if (sums.get(k).readings.contains(sums.get(j).laid) && !order.contains(j)) {
                    may = false;
                }
            }
            if (may) {
                order.add(k);
                extend(sums, order, all);
                order.remove(order.size() - 1);
            }
        }
    }

    /** The greatest number of slips on the table in an order, each lying from its laying to its last reading. */
    int greatest(Bill b, List<Integer> order) {
        List<Line> sums = sums(b);
        Line give = b.lines.get(b.lines.size() - 1);
        int[] lying = new int[order.size() + 1];
        for (int slip = 0; slip < b.slips.size(); slip++) {
            int from = 0;
            int until = -1;
            for (int k = 0; k < order.size(); k++) {
                Line sum = sums.get(order.get(k));
                if (sum.laid == slip) {
                    from = k + 1;
                }
                if (sum.readings.contains(slip)) {
                    until = k;
                }
            }
            if (give.readings.contains(slip)) {
                until = order.size();
            }
            for (int k = from; k <= until; k++) {
                lying[k]++;
            }
        }
        int greatest = 0;
        for (int number : lying) {
            greatest = Math.max(greatest, number);
        }
        return greatest;
    }

    /** The least coin by trying all numbers of reckonings. */
    long cheapest(Bill b, int writing, int reckoning) {
        List<Line> sums = sums(b);
        long[] wanted = new long[b.slips.size()];
        for (int slip : b.lines.get(b.lines.size() - 1).readings) {
            wanted[slip]++;
        }
        return cheapestFrom(b, sums, sums.size() - 1, wanted, writing, reckoning);
    }

    private long cheapestFrom(Bill b, List<Line> sums, int k, long[] wanted, int writing, int reckoning) {
        if (k < 0) {
            long coin = 0;
            for (int slip = 0; slip < b.taken; slip++) {
                coin += Math.max(0, wanted[slip] - 1) * writing;
            }
            return coin;
        }
        Line sum = sums.get(k);
        long best = Long.MAX_VALUE;
        long most = Math.max(1, wanted[sum.laid]);
        for (long times = 1; times <= most; times++) {
            long[] more = wanted.clone();
            for (int slip : sum.readings) {
                more[slip] += times;
            }
            long coin = times * reckoning + Math.max(0, wanted[sum.laid] - times) * writing;
            best = Math.min(best, coin + cheapestFrom(b, sums, k - 1, more, writing, reckoning));
        }
        return best;
    }
}
