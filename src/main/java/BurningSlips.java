import java.util.NoSuchElementException;

/**
 * A shop in which what is written on a slip may be read just once and is ash then. Bills are told
 * on a tape, checked on every way through them, worked line by line, and asked about.
 */
public final class BurningSlips {
    public static final int NONE = -1;

    private static final int MOST_SIGNS = 1000;
    private static final int MOST_WALLS = 4;
    private static final int MOST_BILLS = 4;
    private static final int MOST_TAKEN = 4;
    private static final int MOST_LINES = 60;
    private static final int MOST_SLIPS = 10;
    private static final int MOST_IFS_DEEP = 3;
    private static final int MOST_WITHIN = 5;
    private static final int MOST_WORKED = 16;
    private static final int MOST_SUMS = 12;
    private static final int MOST_FREE_LINES = 3000;
    private static final int MARKS = 4;

    // An E keeps at most four signs waiting in each of its few brackets, so this is ample.
    private static final int MOST_WAITING = 64;

    // The kinds of LINES.
    private static final int TAKE = 0;
    private static final int LET = 1;
    private static final int TWIN = 2;
    private static final int BURN = 3;
    private static final int CALL = 4;
    private static final int IF = 5;
    private static final int ELSE = 6;
    private static final int END = 7;
    private static final int GIVE = 8;

    // The kinds of TOKENS: a sign is its own number, a word that is no NAME is RESERVED and more.
    private static final int NO_TOKEN = 0;
    private static final int TEXT_END = 1;
    private static final int NAME = 2;
    private static final int NUMBER = 3;
    private static final int RESERVED = 100;
    private static final int WALL = 109;
    private static final int BILL = 110;
    private static final int ONCE = 111;
    private static final int MOST = 112;
    private static final int AS = 113;
    private static final int NOT = 114;
    private static final int AND = 115;
    private static final int OR = 116;

    // Four signs a word, the first words of LINES ahead and in the order of their kinds.
    private static final int RESERVED_WIDTH = 4;
    private static final String RESERVED_WORDS =
            "takelet twinburncallif  elseend givewallbilloncemostas  not and or  ";

    // FAULTS.
    private static final int MISPLACED = 1;
    private static final int NO_SUCH_BILL = 2;
    private static final int WRONG_NAME = 3;
    private static final int TOO_MANY = 5;

    // What CHECK finds wrong.
    private static final int NOT_THERE = 1;
    private static final int THERE_ALREADY = 2;
    private static final int UNLIKE_BRANCHES = 3;
    private static final int LEFT_OVER = 4;

    // STATUS of a machine; only a working with slips that do not burn can be LOST.
    private static final int IDLE = 0;
    private static final int GOES_ON = 1;
    private static final int DONE = 2;
    private static final int FULL = 3;
    private static final int TOO_DEEP = 4;
    private static final int LOST = 5;

    private final Tape tape;
    private final Reader reader;
    private final Checker checker;
    private final Machine machine;
    private final Machine freeMachine;
    private final Machine[] marks;
    private final Ways ways;
    private final Orders orders;
    private Bills told;
    private Bills spare;
    private int laidMarks;

    public BurningSlips() {
        tape = new Tape();
        told = new Bills();
        spare = new Bills();
        reader = new Reader(tape, spare);
        checker = new Checker();
        Reckoner reckoner = new Reckoner();
        machine = new Machine(reckoner, true);
        freeMachine = new Machine(reckoner, false);
        marks = new Machine[MARKS];
        for (int k = 0; k < marks.length; k++) {
            marks[k] = new Machine(reckoner, true);
        }
        ways = new Ways();
        orders = new Orders();
    }

    public int feed(long a, long b, long c) {
        tape.append(a);
        tape.append(b);
        tape.append(c);
        return tape.length;
    }

    public int bills() {
        int fault = reader.readInto(spare);
        tape.clear();
        if (fault == 0) {
            checker.checkAll(spare);
            Bills old = told;
            told = spare;
            spare = old;
            machine.stand();
            laidMarks = 0;
            ways.forget();
            orders.forget();
        }
        return fault;
    }

    public int bill(int bill, int what) {
        if (!told.has(bill)) {
            return NONE;
        }
        switch (what) {
            case 0:
                return at(told.firstLines, bill);
            case 1:
                return at(told.lineCounts, bill);
            case 2:
                return at(told.taken, bill);
            case 3:
                return at(told.slipCounts, bill);
            case 4:
                return at(told.wrongs, bill) == 0 ? 1 : 0;
            case 5:
                return at(told.sound, bill);
            default:
                return NONE;
        }
    }

    public int line(int line, int what) {
        Lines lines = told.lines;
        if (line < 0 || line >= lines.count) {
            return NONE;
        }
        switch (what) {
            case 0:
                return at(lines.kinds, line);
            case 1:
                return at(lines.laid, line);
            case 2:
                return at(lines.besides, line);
            case 3:
                return lines.timesRead(line);
            case 4:
                return at(lines.called, line);
            default:
                return NONE;
        }
    }

    public int check(int bill, int what) {
        if (!told.has(bill)) {
            return NONE;
        }
        switch (what) {
            case 0:
                return at(told.wrongs, bill);
            case 1:
                return at(told.wrongLines, bill);
            case 2:
                return at(told.wrongSlips, bill);
            default:
                return NONE;
        }
    }

    public boolean room(int room) {
        if (room < 1 || room > 99) {
            return false;
        }
        machine.room = room;
        return true;
    }

    public boolean price(int price) {
        if (price < 0 || price > 99) {
            return false;
        }
        machine.price = price;
        return true;
    }

    public boolean begin(int bill, int a, int b, int c, int d) {
        if (!told.has(bill) || at(told.sound, bill) == 0) {
            return false;
        }
        machine.take(a, b, c, d);
        machine.start(told, bill);
        return true;
    }

    public int run(int steps) {
        if (steps < 0 || steps > 1000) {
            return NONE;
        }
        return machine.go(told, steps);
    }

    public int machine(int what) {
        return machine.tell(what);
    }

    public int given() throws NoSuchElementException {
        if (machine.status != DONE) {
            throw new NoSuchElementException("nothing is given yet");
        }
        return machine.gift;
    }

    public int slip(int slip) throws NoSuchElementException {
        if (machine.status != GOES_ON || !machine.shows(slip)) {
            throw new NoSuchElementException("no such slip on the table");
        }
        return machine.saying(slip);
    }

    public int free(int bill, int a, int b, int c, int d) throws NoSuchElementException {
        if (!told.has(bill)) {
            throw new NoSuchElementException("no such bill");
        }
        freeMachine.take(a, b, c, d);
        freeMachine.start(told, bill);
        freeMachine.go(told, MOST_FREE_LINES);
        if (freeMachine.status != DONE) {
            throw new NoSuchElementException("the bill gives nothing");
        }
        return freeMachine.gift;
    }

    public int ways(int bill, int what) {
        if (!told.has(bill) || what < 0 || what > 2) {
            return NONE;
        }
        if (what == 0) {
            return ways.howMany(told, bill);
        }
        ways.measure(told, bill, NONE);
        return what == 1 ? ways.highest : ways.lowest;
    }

    public int reads(int bill, int slip, int what) {
        if (!told.has(bill) || what < 0 || what > 1) {
            return NONE;
        }
        if (slip < 0 || slip >= at(told.slipCounts, bill)) {
            return NONE;
        }
        ways.measure(told, bill, slip);
        return what == 1 ? ways.highest : ways.lowest;
    }

    public int needs(int bill, int what) {
        if (!told.has(bill) || what < 0 || what > 3) {
            return NONE;
        }
        return ways.need(told, bill, what);
    }

    public int plain(int bill) {
        if (!told.has(bill)) {
            return NONE;
        }
        return told.isPlain(bill) ? 1 : 0;
    }

    public int fewest(int bill) {
        return orders.prepare(told, bill) ? orders.least() : NONE;
    }

    public int order(int bill, int i) {
        return orders.prepare(told, bill) ? orders.sumAt(i) : NONE;
    }

    public int asTold(int bill) {
        return orders.prepare(told, bill) ? orders.greatestAsTold() : NONE;
    }

    public long orders(int bill, int slips) {
        if (slips < 0 || slips > 20 || !orders.prepare(told, bill)) {
            return NONE;
        }
        return orders.howMany(slips);
    }

    public long cheapest(int bill, int writing, int reckoning) {
        if (writing < 0 || writing > 99 || reckoning < 0 || reckoning > 99) {
            return NONE;
        }
        return orders.prepare(told, bill) ? orders.leastCoin(writing, reckoning) : NONE;
    }

    public boolean mark(int mark, boolean back) {
        if (mark < 0 || mark >= marks.length) {
            return false;
        }
        Machine held = marks[mark];
        if (held == null || back && (laidMarks >> mark & 1) == 0) {
            return false;
        }
        if (back) {
            machine.become(held);
        } else {
            held.become(machine);
            laidMarks |= 1 << mark;
        }
        return true;
    }

    public int count(int what) {
        switch (what) {
            case 0:
                return told.wallCount;
            case 1:
                return told.billCount;
            case 2:
                return told.lines.count;
            case 3:
                return machine.room;
            case 4:
                return machine.price;
            case 5:
                return tape.length;
            default:
                return NONE;
        }
    }

    private static int at(int[] row, int i) {
        return i >= 0 && i < row.length ? row[i] : 0;
    }

    private static void put(int[] row, int i, int value) {
        if (i >= 0 && i < row.length) {
            row[i] = value;
        }
    }

    /** Where a NAME stands among the first of a row, NONE: nowhere. */
    private static int find(long[] names, int count, long name) {
        for (int k = 0; k < count && k < names.length; k++) {
            if (names[k] == name) {
                return k;
            }
        }
        return NONE;
    }

    /** The TAPE, and the TOKEN of it that is looked at. */
    private static final class Tape {
        private static final int LONGEST_WORD = 8;
        private static final int LONGEST_NUMBER = 4;

        private final int[] signs = new int[MOST_SIGNS];
        private final long[] reserved = new long[RESERVED_WORDS.length() / RESERVED_WIDTH];
        private int length;
        private int place;
        private int behind;
        private int kind;
        private int number;
        private long word;

        Tape() {
            for (int k = 0; k < reserved.length; k++) {
                long code = 0;
                int first = k * RESERVED_WIDTH;
                for (int j = first; j < first + RESERVED_WIDTH && j < RESERVED_WORDS.length(); j++) {
                    char sign = RESERVED_WORDS.charAt(j);
                    if (sign != ' ') {
                        code = withLetter(code, sign);
                    }
                }
                reserved[k] = code;
            }
        }

        void clear() {
            length = 0;
        }

        void append(long eight) {
            for (int shift = 56; shift >= 0; shift -= 8) {
                int sign = (int) (eight >>> shift) & 255;
                boolean known = sign == 10 || sign >= 32 && sign <= 126;
                if (known && length < signs.length) {
                    put(signs, length, sign);
                    length++;
                }
            }
        }

        void rewind() {
            behind = 0;
            advance();
        }

        /** Looks at the next TOKEN. */
        void advance() {
            int start = behind;
            while (start < length && isBlank(at(signs, start))) {
                start++;
            }
            place = start;
            if (start >= length) {
                kind = TEXT_END;
                behind = length;
                return;
            }
            int sign = at(signs, start);
            if (isLetter(sign)) {
                readWord(start);
            } else if (isDigit(sign)) {
                readNumber(start);
            } else {
                kind = isSign(sign) ? sign : NO_TOKEN;
                behind = start + 1;
            }
        }

        private void readWord(int start) {
            long code = 0;
            int stop = start;
            while (stop < length && isLetter(at(signs, stop))) {
                code = withLetter(code, at(signs, stop));
                stop++;
            }
            behind = stop;
            if (stop - start > LONGEST_WORD) {
                kind = NO_TOKEN;
                return;
            }
            int known = find(reserved, reserved.length, code);
            kind = known == NONE ? NAME : RESERVED + known;
            word = code;
        }

        private void readNumber(int start) {
            int value = 0;
            int stop = start;
            while (stop < length && isDigit(at(signs, stop))) {
                value = value * 10 + at(signs, stop) - '0';
                stop++;
            }
            behind = stop;
            kind = stop - start > LONGEST_NUMBER ? NO_TOKEN : NUMBER;
            number = value;
        }

        // Eight letters of five bits each fit into a long, so that no texts need be kept.
        private static long withLetter(long code, int letter) {
            return code * 32 + (letter - 'a' + 1);
        }

        private static boolean isBlank(int sign) {
            return sign == 10 || sign == ' ';
        }

        private static boolean isLetter(int sign) {
            return sign >= 'a' && sign <= 'z';
        }

        private static boolean isDigit(int sign) {
            return sign >= '0' && sign <= '9';
        }

        private static boolean isSign(int sign) {
            switch (sign) {
                case '(':
                case ')':
                case '<':
                case '=':
                case '+':
                case '-':
                case '*':
                case ';':
                    return true;
                default:
                    return false;
            }
        }
    }

    /**
     * The LINES of all bills, with codes for what each reads and reckons: of an E its parts in the
     * order in which they stand and each sign behind what it joins; of other LINES the SLIPS read.
     */
    private static final class Lines {
        private static final int CODE_WIDTH = 128;

        private final int[] kinds = new int[MOST_LINES];
        private final int[] laid = new int[MOST_LINES];
        private final int[] besides = new int[MOST_LINES];
        private final int[] once = new int[MOST_LINES];
        private final int[] called = new int[MOST_LINES];
        private final int[] mates = new int[MOST_LINES];
        private final int[] gone = new int[MOST_LINES];
        private final int[] codeStarts = new int[MOST_LINES];
        private final int[] codeStops = new int[MOST_LINES];
        private final int[] codes = new int[MOST_SIGNS];
        private int count;
        private int codeCount;

        void empty() {
            count = 0;
            codeCount = 0;
        }

        int add(int kind) {
            int line = count;
            put(kinds, line, kind);
            put(laid, line, NONE);
            put(besides, line, NONE);
            put(once, line, 1);
            put(called, line, NONE);
            put(mates, line, NONE);
            put(gone, line, 0);
            put(codeStarts, line, codeCount);
            put(codeStops, line, codeCount);
            count++;
            return line;
        }

        /** Adds a code to the last LINE. */
        void addCode(int kind, int number) {
            if (codeCount < codes.length) {
                put(codes, codeCount, kind + number * CODE_WIDTH);
                codeCount++;
                put(codeStops, count - 1, codeCount);
            }
        }

        int codeKind(int code) {
            return at(codes, code) % CODE_WIDTH;
        }

        int codeNumber(int code) {
            return at(codes, code) / CODE_WIDTH;
        }

        boolean isSlip(int code, int slip) {
            return codeKind(code) == NAME && codeNumber(code) == slip;
        }

        int timesRead(int line) {
            int times = 0;
            int stop = at(codeStops, line);
            for (int code = at(codeStarts, line); code < stop; code++) {
                times += codeKind(code) == NAME ? 1 : 0;
            }
            return times;
        }

        int timesRead(int line, int slip) {
            int times = 0;
            int stop = at(codeStops, line);
            for (int code = at(codeStarts, line); code < stop; code++) {
                times += isSlip(code, slip) ? 1 : 0;
            }
            return times;
        }

        /** The SLIPS that are read, a bit each. */
        int readSet(int line) {
            int set = 0;
            int stop = at(codeStops, line);
            for (int code = at(codeStarts, line); code < stop; code++) {
                set |= codeKind(code) == NAME ? 1 << codeNumber(code) : 0;
            }
            return set;
        }

        /** The SLIPS that are laid, a bit each. */
        int laidSet(int line) {
            return bit(at(laid, line)) | bit(at(besides, line));
        }

        private static int bit(int slip) {
            return slip == NONE ? 0 : 1 << slip;
        }
    }

    /** The BILLS, and what CHECK found of them. */
    private static final class Bills {
        private final Lines lines = new Lines();
        private final long[] wallNames = new long[MOST_WALLS];
        private final int[] wallNumbers = new int[MOST_WALLS];
        private final long[] billNames = new long[MOST_BILLS];
        private final int[] firstLines = new int[MOST_BILLS];
        private final int[] lineCounts = new int[MOST_BILLS];
        private final int[] taken = new int[MOST_BILLS];
        private final int[] slipCounts = new int[MOST_BILLS];
        private final int[] wrongs = new int[MOST_BILLS];
        private final int[] wrongLines = new int[MOST_BILLS];
        private final int[] wrongSlips = new int[MOST_BILLS];
        private final int[] sound = new int[MOST_BILLS];
        private int wallCount;
        private int billCount;

        void empty() {
            lines.empty();
            wallCount = 0;
            billCount = 0;
        }

        boolean has(int bill) {
            return bill >= 0 && bill < billCount;
        }

        void addWall(long name, int number) {
            if (wallCount < MOST_WALLS) {
                wallNames[wallCount] = name;
                put(wallNumbers, wallCount, number);
                wallCount++;
            }
        }

        void addBill(long name) {
            if (billCount < MOST_BILLS) {
                billNames[billCount] = name;
                put(firstLines, billCount, lines.count);
                put(lineCounts, billCount, 0);
                put(taken, billCount, 0);
                billCount++;
            }
        }

        int lineBehind(int bill) {
            return at(firstLines, bill) + at(lineCounts, bill);
        }

        boolean isPlain(int bill) {
            int there = 0;
            int stop = lineBehind(bill);
            for (int line = at(firstLines, bill); line < stop; line++) {
                int kind = at(lines.kinds, line);
                int laid = lines.laidSet(line);
                if (kind != TAKE && kind != LET && kind != GIVE) {
                    return false;
                }
                if ((lines.readSet(line) & ~there) != 0 || (laid & there) != 0) {
                    return false;
                }
                there |= laid;
            }
            return true;
        }
    }

    /** Reads the TAPE as BILLS; the first FAULT ends the reading. */
    private static final class Reader {
        // What a NAME of a SLIP in a LINE is there for.
        private static final int READ = 0;
        private static final int LAID = 1;
        private static final int BESIDES = 2;

        private final Tape tape;
        private final long[] names = new long[MOST_SLIPS];
        private final int[] open = new int[MOST_IFS_DEEP];
        private final int[] waiting = new int[MOST_WAITING];
        private Bills bills;
        private Lines lines;
        private int slips;
        private int deep;
        private int waitingCount;
        private int within;
        private int fault;
        private int bill;
        private int line;
        private boolean inBill;

        Reader(Tape tape, Bills bills) {
            this.tape = tape;
            this.bills = bills;
            this.lines = bills.lines;
        }

        int readInto(Bills target) {
            bills = target;
            lines = target.lines;
            bills.empty();
            fault = 0;
            inBill = false;
            tape.rewind();
            for (int k = 0; k <= MOST_SIGNS && fault == 0 && tape.kind != TEXT_END; k++) {
                if (!inBill) {
                    readHead();
                } else if (startLine() && readRest()) {
                    endLine();
                }
            }
            if (inBill) {
                fail(MISPLACED);
            }
            return fault;
        }

        private boolean fail(int kind) {
            if (fault == 0) {
                fault = kind + 16 * tape.place;
            }
            return false;
        }

        private boolean expect(int kind) {
            if (tape.kind != kind) {
                return fail(MISPLACED);
            }
            tape.advance();
            return true;
        }

        private void readHead() {
            boolean isWall = tape.kind == WALL && bills.billCount == 0;
            if (!isWall && tape.kind != BILL) {
                fail(MISPLACED);
            } else if (isWall ? bills.wallCount >= MOST_WALLS : bills.billCount >= MOST_BILLS) {
                fail(TOO_MANY);
            } else {
                tape.advance();
                long name = tape.word;
                if (readNewName()) {
                    endHead(isWall, name);
                }
            }
        }

        private void endHead(boolean isWall, long name) {
            int number = tape.number;
            if (isWall) {
                if (expect(NUMBER) && expect(';')) {
                    bills.addWall(name, number);
                }
            } else if (expect(';')) {
                bill = bills.billCount;
                bills.addBill(name);
                slips = 0;
                deep = 0;
                inBill = true;
            }
        }

        /** Reads the NAME of a wall or a bill. */
        private boolean readNewName() {
            if (tape.kind == NAME && (isWall() || isBill())) {
                return fail(WRONG_NAME);
            }
            return expect(NAME);
        }

        private boolean isWall() {
            return find(bills.wallNames, bills.wallCount, tape.word) != NONE;
        }

        private boolean isBill() {
            return find(bills.billNames, bills.billCount, tape.word) != NONE;
        }

        /** Adds the LINE whose first word is looked at. */
        private boolean startLine() {
            int kind = tape.kind - RESERVED;
            if (kind < TAKE || kind > GIVE || !mayStand(kind)) {
                return fail(MISPLACED);
            }
            if (isTooMany(kind)) {
                return fail(TOO_MANY);
            }
            line = lines.add(kind);
            put(bills.lineCounts, bill, at(bills.lineCounts, bill) + 1);
            tape.advance();
            return true;
        }

        private boolean mayStand(int kind) {
            switch (kind) {
                case TAKE:
                    return at(bills.lineCounts, bill) == at(bills.taken, bill);
                case ELSE:
                    return deep > 0 && at(lines.kinds, at(open, deep - 1)) == IF;
                case END:
                    return deep > 0 && at(lines.kinds, at(open, deep - 1)) == ELSE;
                case GIVE:
                    return deep == 0;
                default:
                    return true;
            }
        }

        private boolean isTooMany(int kind) {
            return lines.count >= MOST_LINES
                    || kind == TAKE && at(bills.taken, bill) >= MOST_TAKEN
                    || kind == IF && deep >= MOST_IFS_DEEP;
        }

        /** Reads what stands between the first word of a LINE and its ; */
        private boolean readRest() {
            switch (at(lines.kinds, line)) {
                case TAKE:
                    return isUntaken() && readSlip(LAID) && readKind();
                case LET:
                    return readSlip(LAID) && readKind() && readSum();
                case TWIN:
                    return readSlip(READ) && expect(AS) && readSlip(LAID) && readSlip(BESIDES);
                case BURN:
                    return readSlip(READ);
                case CALL:
                    return readCall() && expect(AS) && readSlip(LAID);
                case IF:
                    put(open, deep, line);
                    deep++;
                    return readSum();
                case ELSE:
                    put(lines.mates, at(open, deep - 1), line);
                    put(open, deep - 1, line);
                    return true;
                case END:
                    deep--;
                    put(lines.mates, at(open, deep), line);
                    return true;
                default:
                    return readSum();
            }
        }

        private void endLine() {
            if (expect(';') && at(lines.kinds, line) == GIVE) {
                put(bills.slipCounts, bill, slips);
                inBill = false;
            }
        }

        private boolean isUntaken() {
            // Only what is taken has been named by then.
            if (tape.kind == NAME && find(names, slips, tape.word) != NONE) {
                return fail(WRONG_NAME);
            }
            put(bills.taken, bill, at(bills.taken, bill) + 1);
            return true;
        }

        private boolean readKind() {
            put(lines.once, line, tape.kind == ONCE ? 1 : 0);
            return expect(tape.kind == ONCE ? ONCE : MOST);
        }

        /** Reads the NAME of a SLIP where a wall's can't stand. */
        private boolean readSlip(int part) {
            if (tape.kind != NAME) {
                return fail(MISPLACED);
            }
            if (isWall()) {
                return fail(WRONG_NAME);
            }
            int slip = slipNamed();
            if (slip == NONE) {
                return fail(TOO_MANY);
            }
            if (part == READ) {
                lines.addCode(NAME, slip);
            } else {
                put(part == LAID ? lines.laid : lines.besides, line, slip);
            }
            tape.advance();
            return true;
        }

        /** The SLIP of the NAME that is looked at, numbered now if it is new; NONE: one too many. */
        private int slipNamed() {
            int slip = find(names, slips, tape.word);
            if (slip == NONE && slips < names.length) {
                slip = slips;
                names[slip] = tape.word;
                slips++;
            }
            return slip;
        }

        private boolean readCall() {
            if (tape.kind != NAME) {
                return fail(MISPLACED);
            }
            int called = find(bills.billNames, bills.billCount, tape.word);
            if (called == NONE) {
                return fail(NO_SUCH_BILL);
            }
            put(lines.called, line, called);
            tape.advance();
            int wanted = at(bills.taken, called);
            for (int k = 0; k < wanted; k++) {
                if (!readSlip(READ)) {
                    return false;
                }
            }
            // A wall's NAME is the lesser FAULT of a NAME too many.
            if (tape.kind == NAME) {
                return fail(isWall() ? WRONG_NAME : TOO_MANY);
            }
            return true;
        }

        /**
         * Reads an E: parts are coded as they come, signs wait until what they join has been coded.
         */
        private boolean readSum() {
            waitingCount = 0;
            within = 0;
            boolean partIsNext = true;
            for (int k = 0; k <= MOST_SIGNS; k++) {
                int kind = tape.kind;
                boolean good;
                if (partIsNext) {
                    partIsNext = kind == NOT || kind == '(';
                    good = mayBegin() && (partIsNext ? wrap() : readPart());
                } else if (kind == ')') {
                    good = unwrap();
                } else if (rank(kind) > 0) {
                    good = join();
                    partIsNext = true;
                } else {
                    return endSum();
                }
                if (!good) {
                    return false;
                }
                tape.advance();
            }
            return fail(MISPLACED);
        }

        private boolean mayBegin() {
            int kind = tape.kind;
            if (kind != NUMBER && kind != NAME && kind != NOT && kind != '(') {
                return fail(MISPLACED);
            }
            return within < MOST_WITHIN || fail(TOO_MANY);
        }

        private void await(int kind) {
            put(waiting, waitingCount, kind);
            waitingCount++;
        }

        private boolean wrap() {
            within++;
            await(tape.kind);
            return true;
        }

        private boolean readPart() {
            if (tape.kind == NUMBER) {
                lines.addCode(NUMBER, tape.number);
            } else if (isWall()) {
                int wall = find(bills.wallNames, bills.wallCount, tape.word);
                lines.addCode(NUMBER, at(bills.wallNumbers, wall));
            } else {
                int slip = slipNamed();
                if (slip == NONE) {
                    return fail(TOO_MANY);
                }
                lines.addCode(NAME, slip);
            }
            codeNots();
            return true;
        }

        private boolean unwrap() {
            codeFrom(1);
            if (lastWaiting() != '(') {
                return fail(MISPLACED);
            }
            waitingCount--;
            within--;
            codeNots();
            return true;
        }

        private boolean join() {
            int rank = rank(tape.kind);
            // A comparison has no other one beside it: it must find none waiting.
            codeFrom(rank == 2 ? 3 : rank);
            if (rank == 2 && rank(lastWaiting()) == 2) {
                return fail(MISPLACED);
            }
            await(tape.kind);
            return true;
        }

        private boolean endSum() {
            codeFrom(1);
            return waitingCount == 0 || fail(MISPLACED);
        }

        private int lastWaiting() {
            return waitingCount > 0 ? at(waiting, waitingCount - 1) : NO_TOKEN;
        }

        private void codeNots() {
            while (waitingCount > 0 && lastWaiting() == NOT) {
                lines.addCode(NOT, 0);
                waitingCount--;
                within--;
            }
        }

        private void codeFrom(int rank) {
            while (waitingCount > 0 && rank(lastWaiting()) >= rank) {
                lines.addCode(lastWaiting(), 0);
                waitingCount--;
            }
        }

        /** How tightly a sign joins, 0: it joins nothing. */
        private static int rank(int kind) {
            switch (kind) {
                case AND:
                case OR:
                    return 1;
                case '<':
                case '=':
                    return 2;
                case '+':
                case '-':
                    return 3;
                case '*':
                    return 4;
                default:
                    return 0;
            }
        }
    }

    /** CHECK: the table holds a bit for each SLIP, of once in one set and of most in another. */
    private static final class Checker {
        private final int[] onceAtIf = new int[MOST_IFS_DEEP];
        private final int[] mostAtIf = new int[MOST_IFS_DEEP];
        private final int[] onceAtElse = new int[MOST_IFS_DEEP];
        private final int[] mostAtElse = new int[MOST_IFS_DEEP];
        private final int[] elseLines = new int[MOST_IFS_DEEP];
        private int once;
        private int most;
        private int deep;
        private int wrong;
        private int wrongSlip;

        void checkAll(Bills bills) {
            for (int bill = 0; bill < bills.billCount; bill++) {
                checkBill(bills, bill);
                put(bills.sound, bill, isSound(bills, bill) ? 1 : 0);
            }
        }

        private void checkBill(Bills bills, int bill) {
            once = 0;
            most = 0;
            deep = 0;
            wrong = 0;
            wrongSlip = NONE;
            int wrongLine = NONE;
            int stop = bills.lineBehind(bill);
            for (int line = at(bills.firstLines, bill); line < stop && wrong == 0; line++) {
                checkLine(bills.lines, line);
                wrongLine = wrong == 0 ? NONE : line;
            }
            put(bills.wrongs, bill, wrong);
            put(bills.wrongLines, bill, wrongLine);
            put(bills.wrongSlips, bill, wrongSlip);
        }

        // What a bill calls is told ahead, so whether that is sound is known; or it is the same.
        private static boolean isSound(Bills bills, int bill) {
            boolean sound = at(bills.wrongs, bill) == 0;
            int stop = bills.lineBehind(bill);
            for (int line = at(bills.firstLines, bill); line < stop; line++) {
                int called = at(bills.lines.called, line);
                if (called != NONE && called != bill && at(bills.sound, called) == 0) {
                    sound = false;
                }
            }
            return sound;
        }

        private void blame(int kind, int slip) {
            if (wrong == 0) {
                wrong = kind;
                wrongSlip = slip;
            }
        }

        private void checkLine(Lines lines, int line) {
            takeAway(lines, line);
            lay(at(lines.laid, line), at(lines.once, line));
            lay(at(lines.besides, line), at(lines.once, line));
            switch (at(lines.kinds, line)) {
                case IF:
                    put(onceAtIf, deep, once);
                    put(mostAtIf, deep, most);
                    deep++;
                    break;
                case ELSE:
                    turnToElse(line);
                    break;
                case END:
                    joinBranches(lines, line);
                    break;
                case GIVE:
                    if (once != 0) {
                        blame(LEFT_OVER, Integer.numberOfTrailingZeros(once));
                    }
                    break;
                default:
                    break;
            }
        }

        private void takeAway(Lines lines, int line) {
            int stop = at(lines.codeStops, line);
            for (int code = at(lines.codeStarts, line); code < stop; code++) {
                if (lines.codeKind(code) == NAME) {
                    int slip = lines.codeNumber(code);
                    if (((once | most) >> slip & 1) == 0) {
                        blame(NOT_THERE, slip);
                    }
                    once &= ~(1 << slip);
                    most &= ~(1 << slip);
                }
            }
        }

        private void lay(int slip, int asOnce) {
            if (slip == NONE) {
                return;
            }
            if (((once | most) >> slip & 1) != 0) {
                blame(THERE_ALREADY, slip);
            } else if (asOnce == 1) {
                once |= 1 << slip;
            } else {
                most |= 1 << slip;
            }
        }

        private void turnToElse(int line) {
            int top = deep - 1;
            put(onceAtElse, top, once);
            put(mostAtElse, top, most);
            put(elseLines, top, line);
            once = at(onceAtIf, top);
            most = at(mostAtIf, top);
        }

        private void joinBranches(Lines lines, int line) {
            deep--;
            // A slip of once in both is alike; in one alone it is missing or of most in the other.
            int unlike = at(onceAtElse, deep) ^ once;
            if (unlike != 0) {
                blame(UNLIKE_BRANCHES, Integer.numberOfTrailingZeros(unlike));
            }
            int mostThen = at(mostAtElse, deep);
            put(lines.gone, at(elseLines, deep), mostThen & ~most);
            put(lines.gone, line, most & ~mostThen);
            most &= mostThen;
        }
    }

    /** Reckons the E of a LINE. */
    private static final class Reckoner {
        private final int[] stack = new int[MOST_WAITING];

        /** What an E comes to, of a LINE that reads one SLIP what that says. */
        int reckon(Lines lines, int line, int[] says, int base) {
            int high = 0;
            int stop = at(lines.codeStops, line);
            for (int code = at(lines.codeStarts, line); code < stop; code++) {
                int kind = lines.codeKind(code);
                if (kind == NUMBER) {
                    put(stack, high, lines.codeNumber(code));
                    high++;
                } else if (kind == NAME) {
                    put(stack, high, at(says, base + lines.codeNumber(code)));
                    high++;
                } else if (kind == NOT) {
                    put(stack, high - 1, at(stack, high - 1) == 0 ? 1 : 0);
                } else {
                    high--;
                    put(stack, high - 1, joined(kind, at(stack, high - 1), at(stack, high)));
                }
            }
            return at(stack, 0);
        }

        private static int joined(int kind, int left, int right) {
            switch (kind) {
                case AND:
                    return left != 0 && right != 0 ? 1 : 0;
                case OR:
                    return left != 0 || right != 0 ? 1 : 0;
                case '<':
                    return left < right ? 1 : 0;
                case '=':
                    return left == right ? 1 : 0;
                case '+':
                    return left + right;
                case '-':
                    return left - right;
                default:
                    return left * right;
            }
        }
    }

    /** The MACHINE; one whose slips do not burn works bills FREE. */
    private static final class Machine {
        private final Reckoner reckoner;
        private final boolean burns;
        private final int[] nextLines = new int[MOST_WORKED];
        private final int[] tables = new int[MOST_WORKED];
        private final int[] says = new int[MOST_WORKED * MOST_SLIPS];
        private int worked;
        private int status;
        private int gift;
        private int highest;
        private int ash;
        private int coin;
        private int steps;
        private int room = 99;
        private int price = 1;

        Machine(Reckoner reckoner, boolean burns) {
            this.reckoner = reckoner;
            this.burns = burns;
        }

        void stand() {
            worked = 0;
            status = IDLE;
            gift = 0;
            highest = 0;
            ash = 0;
            coin = 0;
            steps = 0;
        }

        void become(Machine other) {
            System.arraycopy(other.nextLines, 0, nextLines, 0, nextLines.length);
            System.arraycopy(other.tables, 0, tables, 0, tables.length);
            System.arraycopy(other.says, 0, says, 0, says.length);
            worked = other.worked;
            status = other.status;
            gift = other.gift;
            highest = other.highest;
            ash = other.ash;
            coin = other.coin;
            steps = other.steps;
            room = other.room;
            price = other.price;
        }

        /** Writes the numbers that a bill is to be begun with: it takes its first SLIPS. */
        void take(int a, int b, int c, int d) {
            put(says, 0, a);
            put(says, 1, b);
            put(says, 2, c);
            put(says, 3, d);
        }

        void start(Bills bills, int bill) {
            stand();
            status = GOES_ON;
            enter(bills, bill);
            lookAtTable();
        }

        private void enter(Bills bills, int bill) {
            int taken = at(bills.taken, bill);
            put(nextLines, worked, at(bills.firstLines, bill) + taken);
            put(tables, worked, (1 << taken) - 1);
            worked++;
        }

        int go(Bills bills, int most) {
            int done = 0;
            while (done < most && status == GOES_ON && work(bills)) {
                done++;
            }
            return done;
        }

        int tell(int what) {
            switch (what) {
                case 0:
                    return status;
                case 1:
                    return status == GOES_ON ? at(nextLines, worked - 1) : NONE;
                case 2:
                    return lying();
                case 3:
                    return highest;
                case 4:
                    return ash;
                case 5:
                    return coin;
                case 6:
                    return steps;
                case 7:
                    return worked;
                default:
                    return NONE;
            }
        }

        boolean shows(int slip) {
            return slip >= 0 && slip < MOST_SLIPS && (at(tables, worked - 1) >> slip & 1) != 0;
        }

        int saying(int slip) {
            return at(says, (worked - 1) * MOST_SLIPS + slip);
        }

        private int lying() {
            int lying = 0;
            for (int k = 0; k < worked; k++) {
                lying += Integer.bitCount(at(tables, k));
            }
            return lying;
        }

        private void lookAtTable() {
            int lying = lying();
            highest = Math.max(highest, lying);
            if (burns && status == GOES_ON && lying > room) {
                status = FULL;
            }
        }

        /** Works the LINE that is next; false: it stopped ahead of it. */
        private boolean work(Bills bills) {
            Lines lines = bills.lines;
            int top = worked - 1;
            int line = at(nextLines, top);
            int kind = at(lines.kinds, line);
            if (kind == CALL && worked >= MOST_WORKED) {
                status = TOO_DEEP;
                return false;
            }
            if (!readSlips(lines, line)) {
                status = LOST;
                return false;
            }
            put(nextLines, top, line + 1);
            workKind(bills, line, kind);
            steps++;
            lookAtTable();
            return true;
        }

        private boolean readSlips(Lines lines, int line) {
            int read = lines.readSet(line);
            int table = at(tables, worked - 1);
            if (burns) {
                ash += lines.timesRead(line);
                put(tables, worked - 1, table & ~read);
                return true;
            }
            return at(lines.kinds, line) == BURN || (read & ~table) == 0;
        }

        private void workKind(Bills bills, int line, int kind) {
            Lines lines = bills.lines;
            int top = worked - 1;
            switch (kind) {
                case LET:
                case TWIN:
                    int number = reckoned(lines, line);
                    lay(at(lines.laid, line), number);
                    lay(at(lines.besides, line), number);
                    coin += kind == TWIN ? price : 0;
                    break;
                case CALL:
                    workCall(bills, line);
                    break;
                case IF:
                    if (reckoned(lines, line) == 0) {
                        put(nextLines, top, at(lines.mates, line) + 1);
                    }
                    break;
                case ELSE:
                    dropGone(lines, line);
                    put(nextLines, top, at(lines.mates, line) + 1);
                    break;
                case END:
                    dropGone(lines, line);
                    break;
                case GIVE:
                    workGive(lines, reckoned(lines, line));
                    break;
                default:
                    break;
            }
        }

        private int reckoned(Lines lines, int line) {
            return reckoner.reckon(lines, line, says, (worked - 1) * MOST_SLIPS);
        }

        private void lay(int slip, int number) {
            if (slip != NONE) {
                int top = worked - 1;
                put(tables, top, at(tables, top) | 1 << slip);
                put(says, top * MOST_SLIPS + slip, number);
            }
        }

        private void dropGone(Lines lines, int line) {
            if (burns) {
                int table = at(tables, worked - 1);
                int gone = at(lines.gone, line);
                ash += Integer.bitCount(table & gone);
                put(tables, worked - 1, table & ~gone);
            }
        }

        private void workCall(Bills bills, int line) {
            Lines lines = bills.lines;
            int called = at(lines.called, line);
            int base = (worked - 1) * MOST_SLIPS;
            int taken = at(bills.taken, called);
            for (int k = 0; k < taken; k++) {
                int slip = lines.codeNumber(at(lines.codeStarts, line) + k);
                put(says, base + MOST_SLIPS + k, at(says, base + slip));
            }
            enter(bills, called);
        }

        private void workGive(Lines lines, int number) {
            ash += Integer.bitCount(at(tables, worked - 1));
            worked--;
            if (worked == 0) {
                status = DONE;
                gift = number;
            } else {
                int callLine = at(nextLines, worked - 1) - 1;
                lay(at(lines.laid, callLine), number);
            }
        }
    }

    /** WAYS through a bill, and what they need. */
    private static final class Ways {
        private static final int NEEDS = 4;

        // Far above the LINES of all WAYS: sixty LINES hold no twenty ifs behind one another.
        private static final int MOST_STEPS = 100000000;

        private final int[] lowestAtIf = new int[MOST_IFS_DEEP];
        private final int[] highestAtIf = new int[MOST_IFS_DEEP];
        private final int[] lowestAtElse = new int[MOST_IFS_DEEP];
        private final int[] highestAtElse = new int[MOST_IFS_DEEP];
        private final int[] lacks = new int[MOST_SLIPS];
        private final int[] trail = new int[MOST_LINES];

        // Of an if: 0 its else is still to be walked, 1 it need not be, 2 it is walked now.
        private final int[] settled = new int[MOST_LINES];
        private final int[] found = new int[NEEDS];
        private int trailCount;
        private int onceSet;
        private int foundBill = NONE;
        private int lowest;
        private int highest;

        void forget() {
            foundBill = NONE;
        }

        int howMany(Bills bills, int bill) {
            int number = 1;
            int deep = 0;
            int stop = bills.lineBehind(bill);
            for (int line = at(bills.firstLines, bill); line < stop; line++) {
                int kind = at(bills.lines.kinds, line);
                if (kind == IF) {
                    put(lowestAtIf, deep, number);
                    deep++;
                    number = 1;
                } else if (kind == ELSE) {
                    put(lowestAtElse, deep - 1, number);
                    number = 1;
                } else if (kind == END) {
                    deep--;
                    number = at(lowestAtIf, deep) * (at(lowestAtElse, deep) + number);
                }
            }
            return number;
        }

        /** The lowest and the highest number of LINES, or of times that a SLIP is read, by WAYS. */
        void measure(Bills bills, int bill, int slip) {
            lowest = 0;
            highest = 0;
            int deep = 0;
            int stop = bills.lineBehind(bill);
            for (int line = at(bills.firstLines, bill); line < stop; line++) {
                int kind = at(bills.lines.kinds, line);
                int weight = slip != NONE ? bills.lines.timesRead(line, slip) : kind == TAKE ? 0 : 1;
                lowest += weight;
                highest += weight;
                if (kind == IF) {
                    keep(lowestAtIf, highestAtIf, deep);
                    deep++;
                } else if (kind == ELSE) {
                    keep(lowestAtElse, highestAtElse, deep - 1);
                } else if (kind == END) {
                    deep--;
                    lowest = at(lowestAtIf, deep) + Math.min(lowest, at(lowestAtElse, deep));
                    highest = at(highestAtIf, deep) + Math.max(highest, at(highestAtElse, deep));
                }
            }
        }

        private void keep(int[] lowestRow, int[] highestRow, int i) {
            put(lowestRow, i, lowest);
            put(highestRow, i, highest);
            lowest = 0;
            highest = 0;
        }

        int need(Bills bills, int bill, int what) {
            if (foundBill != bill) {
                prepare(bills, bill);
                walkAll(bills, bill);
                foundBill = bill;
            }
            return at(found, what);
        }

        private void prepare(Bills bills, int bill) {
            Lines lines = bills.lines;
            onceSet = 0;
            int first = at(bills.firstLines, bill);
            // From the last one on: whether an if matters asks whether those within it do.
            for (int line = bills.lineBehind(bill) - 1; line >= first; line--) {
                if (at(lines.once, line) == 1) {
                    onceSet |= lines.laidSet(line);
                }
                if (at(lines.kinds, line) == IF) {
                    put(settled, line, isAlike(lines, line) ? 1 : 0);
                }
            }
            put(found, 0, Integer.MAX_VALUE);
            put(found, 1, 0);
            put(found, 2, Integer.MAX_VALUE);
            put(found, 3, 0);
            clearLacks();
            trailCount = 0;
        }

        private void clearLacks() {
            for (int slip = 0; slip < lacks.length; slip++) {
                put(lacks, slip, 0);
            }
        }

        /** Whether both branches of an if lack the same by any WAY, so that one of them will do. */
        private boolean isAlike(Lines lines, int ifLine) {
            clearLacks();
            int elseLine = at(lines.mates, ifLine);
            int endLine = at(lines.mates, elseLine);
            int sign = 1;
            int line = ifLine + 1;
            for (int k = 0; k < MOST_LINES && line < endLine; k++) {
                int kind = at(lines.kinds, line);
                if (kind == IF && at(settled, line) == 0) {
                    return false;
                }
                weigh(lines, line, sign);
                sign = line == elseLine ? -1 : sign;
                line = kind == ELSE && line != elseLine ? at(lines.mates, line) : line + 1;
            }
            int unlike = 0;
            for (int slip = 0; slip < lacks.length; slip++) {
                unlike |= at(lacks, slip);
            }
            return unlike == 0;
        }

        private void weigh(Lines lines, int line, int sign) {
            int stop = at(lines.codeStops, line);
            for (int code = at(lines.codeStarts, line); code < stop; code++) {
                if (lines.codeKind(code) == NAME) {
                    addLack(lines.codeNumber(code), sign);
                }
            }
            addLack(at(lines.laid, line), -sign);
            addLack(at(lines.besides, line), -sign);
        }

        private void addLack(int slip, int more) {
            put(lacks, slip, at(lacks, slip) + more);
        }

        private void walkAll(Bills bills, int bill) {
            Lines lines = bills.lines;
            int line = at(bills.firstLines, bill);
            for (int k = 0; k < MOST_STEPS && line != NONE; k++) {
                weigh(lines, line, 1);
                put(trail, trailCount, line);
                trailCount++;
                int kind = at(lines.kinds, line);
                if (kind == GIVE) {
                    record();
                    line = turnBack(lines);
                } else {
                    line = kind == ELSE ? at(lines.mates, line) + 1 : line + 1;
                }
            }
        }

        private void record() {
            int twins = 0;
            int burnings = 0;
            for (int slip = 0; slip < lacks.length; slip++) {
                int lack = at(lacks, slip);
                twins += Math.max(0, lack);
                burnings += (onceSet >> slip & 1) != 0 ? Math.max(0, -lack) : 0;
            }
            put(found, 0, Math.min(at(found, 0), twins));
            put(found, 1, Math.max(at(found, 1), twins));
            put(found, 2, Math.min(at(found, 2), burnings));
            put(found, 3, Math.max(at(found, 3), burnings));
        }

        /** Goes back to the last if whose else is still to be walked: where that goes on. */
        private int turnBack(Lines lines) {
            while (trailCount > 0) {
                trailCount--;
                int line = at(trail, trailCount);
                if (at(lines.kinds, line) == IF && at(settled, line) == 0) {
                    put(settled, line, 2);
                    trailCount++;
                    return at(lines.mates, line) + 1;
                }
                if (at(settled, line) == 2) {
                    put(settled, line, 0);
                }
                weigh(lines, line, -1);
            }
            return NONE;
        }
    }

    /** ORDERS of a PLAIN bill's SUMS; what has been reckoned is a set with a bit for each SUM. */
    private static final class Orders {
        // Each SUM of a PLAIN bill lays a SLIP of its own, so there are no more SUMS than SLIPS.
        private static final int SETS = 1 << MOST_SLIPS;

        private final int[] stands = new int[(MOST_SLIPS + 1) * MOST_SLIPS];
        private final int[] behindSums = new int[MOST_SLIPS];
        private final int[] readBy = new int[MOST_SLIPS];
        private final int[] prices = new int[MOST_SLIPS];
        private final int[] lying = new int[SETS];
        private final int[] best = new int[SETS];
        private final long[] counts = new long[SETS];
        private int taken;
        private int sums;
        private int ready = NONE;

        void forget() {
            ready = NONE;
        }

        /** Makes ready for a bill; false: no such one, it is not PLAIN, it has too many SUMS. */
        boolean prepare(Bills bills, int bill) {
            if (!bills.has(bill) || !bills.isPlain(bill)) {
                return false;
            }
            int letCount = at(bills.lineCounts, bill) - at(bills.taken, bill) - 1;
            if (letCount > MOST_SUMS || letCount > MOST_SLIPS) {
                return false;
            }
            if (ready != bill) {
                taken = at(bills.taken, bill);
                sums = letCount;
                countStands(bills.lines, at(bills.firstLines, bill) + taken);
                findReaders();
                findBest();
                ready = bill;
            }
            return true;
        }

        // The SLIPS of a PLAIN bill are numbered as they are laid: what it takes, then SUM by SUM.
        private int slipOf(int sum) {
            return taken + sum;
        }

        /** How often a SLIP stands in a SUM; behind the last SUM comes give. */
        private int standing(int sum, int slip) {
            return at(stands, sum * MOST_SLIPS + slip);
        }

        private void countStands(Lines lines, int firstLine) {
            for (int sum = 0; sum <= sums; sum++) {
                for (int slip = 0; slip < slipOf(sums); slip++) {
                    put(stands, sum * MOST_SLIPS + slip, lines.timesRead(firstLine + sum, slip));
                }
            }
        }

        private void findReaders() {
            for (int slip = 0; slip < slipOf(sums); slip++) {
                put(readBy, slip, 0);
            }
            for (int sum = 0; sum <= sums; sum++) {
                int ahead = 0;
                for (int slip = 0; slip < slipOf(sums); slip++) {
                    if (standing(sum, slip) > 0) {
                        put(readBy, slip, at(readBy, slip) | 1 << sum);
                        ahead |= slip < taken ? 0 : 1 << slip - taken;
                    }
                }
                put(behindSums, sum, ahead);
            }
        }

        /** How many SLIPS lie on the table when a set of SUMS has been reckoned. */
        private int countLying(int set) {
            int number = 0;
            for (int slip = 0; slip < slipOf(sums); slip++) {
                boolean there = slip < taken || (set >> slip - taken & 1) != 0;
                number += there && (at(readBy, slip) & ~set) != 0 ? 1 : 0;
            }
            return number;
        }

        private boolean mayFollow(int sum, int set) {
            return (set >> sum & 1) == 0 && (at(behindSums, sum) & ~set) == 0;
        }

        private int allSums() {
            return (1 << sums) - 1;
        }

        /** Of each set, the least greatest number on the table from there to the end. */
        private void findBest() {
            for (int set = allSums(); set >= 0; set--) {
                put(lying, set, countLying(set));
                int least = set == allSums() ? 0 : Integer.MAX_VALUE;
                for (int sum = 0; sum < sums; sum++) {
                    if (mayFollow(sum, set)) {
                        least = Math.min(least, at(best, set | 1 << sum));
                    }
                }
                put(best, set, Math.max(least, at(lying, set)));
            }
        }

        int least() {
            return at(best, 0);
        }

        /** The i-th SUM of the first ORDER with the fewest SLIPS. */
        int sumAt(int i) {
            if (i < 0 || i >= sums) {
                return NONE;
            }
            int set = 0;
            int last = NONE;
            for (int k = 0; k <= i; k++) {
                last = firstFollowing(set);
                set |= last == NONE ? 0 : 1 << last;
            }
            return last;
        }

        private int firstFollowing(int set) {
            for (int sum = 0; sum < sums; sum++) {
                if (mayFollow(sum, set) && at(best, set | 1 << sum) <= least()) {
                    return sum;
                }
            }
            return NONE;
        }

        int greatestAsTold() {
            int greatest = 0;
            for (int done = 0; done <= sums; done++) {
                greatest = Math.max(greatest, at(lying, (1 << done) - 1));
            }
            return greatest;
        }

        long howMany(int most) {
            for (int set = allSums(); set >= 0 && set < counts.length; set--) {
                long number = 0;
                if (at(lying, set) <= most) {
                    number = set == allSums() ? 1 : countFollowing(set);
                }
                counts[set] = number;
            }
            return counts[0];
        }

        private long countFollowing(int set) {
            long number = 0;
            for (int sum = 0; sum < sums; sum++) {
                int more = set | 1 << sum;
                if (mayFollow(sum, set) && more < counts.length) {
                    number += counts[more];
                }
            }
            return number;
        }

        /**
         * Each SUM must be reckoned once, and that makes one SLIP of each number for nothing; what
         * stands more often than that costs the less of a writing and of a reckoning with all that
         * this one reads. So each SLIP more of a number has one price, whatever the others do.
         */
        long leastCoin(int writing, int reckoning) {
            for (int slip = 0; slip < taken; slip++) {
                put(prices, slip, writing);
            }
            for (int sum = 0; sum < sums; sum++) {
                int anew = reckoning;
                for (int slip = 0; slip < slipOf(sum); slip++) {
                    anew += standing(sum, slip) * at(prices, slip);
                }
                put(prices, slipOf(sum), Math.min(writing, anew));
            }
            long coin = (long) sums * reckoning;
            for (int slip = 0; slip < slipOf(sums); slip++) {
                int wanted = 0;
                for (int sum = 0; sum <= sums; sum++) {
                    wanted += standing(sum, slip);
                }
                coin += (long) Math.max(0, wanted - 1) * at(prices, slip);
            }
            return coin;
        }
    }
}
