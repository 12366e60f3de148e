import java.util.Arrays;
import java.util.NoSuchElementException;

/**
 * A house in which two parties, 0 (alice) and 1 (bob), reckon together what neither may see of
 * the other. A program or a circuit becomes XOR and AND gates; alice garbles them, bob evaluates
 * them, and only what is output is told.
 */
public final class SecretHouse {
    /** There is none. */
    public static final int NONE = -1;

    private static final int MOST_BYTES = 4000;
    private static final int FED_BYTES = 20;
    private static final int MOST_TURNS = 24;
    private static final int NOTHING = 0;
    private static final int PROGRAM = 1;
    private static final int CIRCUIT = 2;
    private static final int WRONG_FORM = 2;

    private final byte[] tape;
    private final Words words;
    private final Parser parser;
    private final Doer doer;
    private final CircuitReader reader;
    private final Garbling garbling;
    private final Gates gates;
    private final Elements alice;
    private final Elements bob;
    private final Elements outputs;
    private int length;
    private int turns;
    private int latestPlace;
    private int now;
    private boolean told;

    /** No program, no circuit; an empty tape. */
    public SecretHouse() {
        tape = new byte[MOST_BYTES];
        words = new Words();
        gates = new Gates();
        alice = new Elements();
        bob = new Elements();
        outputs = new Elements();
        Code code = new Code();
        parser = new Parser(words, code);
        doer = new Doer(words, code, gates, alice, bob, outputs);
        reader = new CircuitReader(gates, alice, bob, outputs);
        garbling = new Garbling(gates);
        latestPlace = NONE;
        now = NOTHING;
    }

    /** Twenty bytes come behind the tape; false when it would have more than 4000. */
    public boolean feed(int a, int b, int c, int d, int e) {
        if (length > MOST_BYTES - FED_BYTES) {
            return false;
        }
        append(a);
        append(b);
        append(c);
        append(d);
        append(e);
        return true;
    }

    /** Of the tape only the first n bytes count; false when it has not so many. */
    public boolean end(int n) {
        if (n < 0 || n > length) {
            return false;
        }
        length = n;
        return true;
    }

    /** The tape is a PROGRAM: 0, or a FAULT's kind; NONE when 24 texts were taken already. */
    public int compile() {
        if (turns >= MOST_TURNS) {
            return NONE;
        }
        beginTurn();
        int kind = 0;
        try {
            words.scan(tape, length);
            parser.parse();
            doer.perform();
            now = PROGRAM;
        } catch (IllegalStateException fault) {
            kind = words.faultKind;
            latestPlace = words.faultStart;
        }
        length = 0;
        return kind;
    }

    /** The tape is a CIRCUIT: 0, or 2; NONE when 24 texts were taken already. */
    public int circuit() {
        if (turns >= MOST_TURNS) {
            return NONE;
        }
        beginTurn();
        int kind = 0;
        try {
            reader.read(tape, length);
            now = CIRCUIT;
        } catch (IllegalStateException fault) {
            kind = WRONG_FORM;
            latestPlace = reader.faultStart;
        }
        length = 0;
        return kind;
    }

    /** Where the latest FAULT is; NONE if the latest text had none. */
    public int place() {
        return latestPlace;
    }

    /** How many there are of what. */
    public int count(int what) {
        if (now == NOTHING) {
            return NONE;
        }
        if (what == 3) {
            return outputs.total;
        }
        if (what >= 4 && what <= 6) {
            return now == CIRCUIT ? reader.size(what) : NONE;
        }
        Elements sort = sortOf(what);
        return sort == null ? NONE : sort.amount;
    }

    /** How many bits ELEMENT k of what has. */
    public int bits(int what, int k) throws NoSuchElementException {
        Elements sort = sortOf(what);
        if (now == NOTHING || sort == null || !sort.has(k)) {
            throw new NoSuchElementException();
        }
        return sort.widths[k];
    }

    /** ELEMENT k of a party is given: the lowest bits of high and low together. */
    public void give(int party, int k, int high, int low) throws NoSuchElementException {
        Elements sort = party == 0 || party == 1 ? sortOf(party) : null;
        if (now == NOTHING || sort == null || !sort.has(k)) {
            throw new NoSuchElementException();
        }
        sort.fill(k, ((long) high << 32) | (low & 0xFFFFFFFFL));
    }

    /** Coins of a party are thrown anew. */
    public void coins(int party, int a, int b) {
        if (party == 0 || party == 1) {
            garbling.throwAnew(party, ((long) a << 32) | (b & 0xFFFFFFFFL));
        }
    }

    /** Both reckon what is given now; false when there is neither a program nor a circuit. */
    public boolean run() {
        if (now == NOTHING) {
            return false;
        }
        garbling.reckon(alice, bob, outputs);
        told = true;
        return true;
    }

    /** ELEMENT k of what the latest run put out. */
    public long value(int k) throws NoSuchElementException {
        if (now == NOTHING || !told || !outputs.has(k)) {
            throw new NoSuchElementException();
        }
        return outputs.contents[k];
    }

    private void append(int number) {
        for (int shift = 24; shift >= 0 && length < MOST_BYTES; shift -= 8) {
            tape[length] = (byte) (number >>> shift);
            length++;
        }
    }

    private void beginTurn() {
        turns++;
        now = NOTHING;
        told = false;
        latestPlace = NONE;
        gates.clear();
        alice.clear();
        bob.clear();
        outputs.clear();
    }

    private Elements sortOf(int what) {
        switch (what) {
            case 0:
                return alice;
            case 1:
                return bob;
            case 2:
                return outputs;
            default:
                return null;
        }
    }

    private static boolean isDigit(int c) {
        return c >= '0' && c <= '9';
    }

    private static boolean isLetter(int c) {
        return (c >= 'a' && c <= 'z') || (c >= 'A' && c <= 'Z');
    }

    /** One sort of ELEMENTS: a party's inputs, or the outputs, and the wires of their bits. */
    private static final class Elements {
        static final int MOST = 256;
        static final int MOST_BITS = 1000;

        final int[] firsts = new int[MOST];
        final int[] widths = new int[MOST];
        final long[] contents = new long[MOST];
        final int[] wires = new int[MOST_BITS];
        int amount;
        int total;

        void clear() {
            amount = 0;
            total = 0;
        }

        boolean has(int k) {
            return k >= 0 && k < amount;
        }

        boolean hasRoom(int elements, int width) {
            return amount + elements <= MOST && total + elements * width <= MOST_BITS;
        }

        /** The wires of its bits are added by themselves, by addWire. */
        void addElement(int width) {
            if (amount >= 0 && amount < MOST) {
                firsts[amount] = amount == 0 ? 0 : firsts[amount - 1] + widths[amount - 1];
                widths[amount] = width;
                contents[amount] = 0;
                amount++;
            }
        }

        void addWire(int wire) {
            if (total < MOST_BITS) {
                wires[total] = wire;
                total++;
            }
        }

        void fill(int k, long content) {
            if (has(k)) {
                contents[k] = widths[k] >= 64 ? content : content & ((1L << widths[k]) - 1);
            }
        }

        int wireOf(int k, int i) {
            int at = has(k) ? firsts[k] + i : NONE;
            return at >= 0 && at < total ? wires[at] : 0;
        }
    }

    /**
     * The gates that both parties know. Wire 0 is always false and wire 1 always true; a gate's
     * wire stands behind all that it uses, so that one walk in the wires' order reckons them all.
     */
    private static final class Gates {
        static final int GIVEN = 0;
        static final int XOR = 1;
        static final int AND = 2;
        /** Far above what a COST of 3000 can make: no step makes more than ten gates a unit. */
        static final int MOST = 65536;

        byte[] kinds = new byte[4096];
        int[] lefts = new int[4096];
        int[] rights = new int[4096];
        int wires;

        void clear() {
            wires = 0;
            store(GIVEN, 0, 0);
            store(GIVEN, 0, 0);
        }

        int input() {
            return store(GIVEN, 0, 0);
        }

        int xor(int x, int y) {
            if (x == y) {
                return 0;
            }
            if (x == 0 || y == 0) {
                return x + y;
            }
            if (isNot(x) && y == 1) {
                return lefts[x];
            }
            if (isNot(y) && x == 1) {
                return lefts[y];
            }
            return x == 1 ? store(XOR, y, 1) : store(XOR, x, y);
        }

        int not(int x) {
            return xor(x, 1);
        }

        private boolean isNot(int x) {
            return x > 1 && x < wires && kinds[x] == XOR && rights[x] == 1;
        }

        int and(int x, int y) {
            if (x == 0 || y == 0) {
                return 0;
            }
            if (x == 1 || x == y) {
                return y;
            }
            return y == 1 ? x : store(AND, x, y);
        }

        int or(int x, int y) {
            if (x == 1 || y == 1) {
                return 1;
            }
            if (x == 0 || x == y) {
                return y;
            }
            return y == 0 ? x : store(XOR, store(XOR, x, y), store(AND, x, y));
        }

        int choose(int test, int x, int y) {
            return xor(y, and(test, xor(x, y)));
        }

        private int store(int kind, int x, int y) {
            if (wires >= MOST) {
                return 0;
            }
            if (wires >= kinds.length) {
                kinds = Arrays.copyOf(kinds, 2 * wires);
                lefts = Arrays.copyOf(lefts, 2 * wires);
                rights = Arrays.copyOf(rights, 2 * wires);
            }
            kinds[wires] = (byte) kind;
            lefts[wires] = x;
            rights[wires] = y;
            wires++;
            return wires - 1;
        }
    }

    /**
     * Alice's garbling and bob's evaluation, with free XORs and a colour in each label's lowest
     * bit. Each garbled gate goes over as soon as it is made, so no table of them is kept.
     */
    private static final class Garbling {
        private static final long STEP = 0x9E3779B97F4A7C15L;
        private static final long STIR = 0xBF58476D1CE4E5B9L;
        private static final long SHAKE = 0x94D049BB133111EBL;

        private final Gates gates;
        private final long[] tosses = {1, 2};
        private final long[] table = new long[4];
        private long[] zeros = new long[0];
        private long[] held = new long[0];
        private long offset;

        Garbling(Gates gates) {
            this.gates = gates;
        }

        void throwAnew(int party, long seed) {
            if (party >= 0 && party < tosses.length) {
                tosses[party] = seed;
            }
        }

        void reckon(Elements alice, Elements bob, Elements outputs) {
            makeRoom();
            offset = toss(0) | 1;
            tellConstants();
            sendLabels(alice);
            transferLabels(bob);
            for (int wire = 0; wire < gates.wires && hasWire(wire); wire++) {
                int x = gates.lefts[wire];
                int y = gates.rights[wire];
                if (x < 0 || x >= wire || y < 0 || y >= wire) {
                    continue;
                }
                if (gates.kinds[wire] == Gates.XOR) {
                    zeros[wire] = zeros[x] ^ zeros[y];
                    held[wire] = held[x] ^ held[y];
                } else if (gates.kinds[wire] == Gates.AND) {
                    garbleAnd(wire, zeros[x], zeros[y]);
                    evaluateAnd(wire, held[x], held[y]);
                }
            }
            tell(outputs);
        }

        private void makeRoom() {
            if (zeros.length < gates.wires) {
                zeros = new long[gates.kinds.length];
                held = new long[gates.kinds.length];
            }
        }

        private long toss(int party) {
            tosses[party] += STEP;
            return mix(tosses[party]);
        }

        private static long mix(long seed) {
            long x = (seed ^ (seed >>> 30)) * STIR;
            x = (x ^ (x >>> 27)) * SHAKE;
            return x ^ (x >>> 31);
        }

        private static long hide(long left, long right, int wire) {
            return mix(left * STEP + (right << 23 | right >>> 41) + wire);
        }

        private boolean hasWire(int wire) {
            return wire >= 0 && wire < gates.wires && wire < zeros.length && wire < held.length;
        }

        private void tellConstants() {
            if (hasWire(1)) {
                zeros[0] = toss(0);
                zeros[1] = toss(0);
                held[0] = zeros[0];
                held[1] = zeros[1] ^ offset;
            }
        }

        private void sendLabels(Elements own) {
            for (int k = 0; k < own.amount; k++) {
                for (int i = 0; i < own.widths[k]; i++) {
                    int wire = own.wireOf(k, i);
                    if (hasWire(wire)) {
                        zeros[wire] = toss(0);
                        held[wire] = zeros[wire] ^ ((own.contents[k] >>> i & 1) * offset);
                    }
                }
            }
        }

        private void transferLabels(Elements other) {
            for (int k = 0; k < other.amount; k++) {
                for (int i = 0; i < other.widths[k]; i++) {
                    int wire = other.wireOf(k, i);
                    if (hasWire(wire)) {
                        zeros[wire] = toss(0);
                        held[wire] = transfer(zeros[wire], (int) (other.contents[k] >>> i & 1));
                    }
                }
            }
        }

        /**
         * Bob gets the label of his bit and alice does not see which: the house deals two pads to
         * alice and one of them to bob, and he tells only whether his pad is the one he wants.
         */
        private long transfer(long zero, int bit) {
            long pad0 = toss(0);
            long pad1 = toss(0);
            int dealt = (int) (toss(1) & 1);
            long pad = dealt == 0 ? pad0 : pad1;
            int swap = bit ^ dealt;
            long message0 = zero ^ (swap == 0 ? pad0 : pad1);
            long message1 = zero ^ offset ^ (swap == 0 ? pad1 : pad0);
            return (bit == 0 ? message0 : message1) ^ pad;
        }

        /** Alice's part: a row for each pair of colours, hidden by the labels of that pair. */
        private void garbleAnd(int wire, long zeroX, long zeroY) {
            long zero = toss(0);
            for (int pair = 0; pair < 4; pair++) {
                int a = pair >> 1;
                int b = pair & 1;
                long left = zeroX ^ (a * offset);
                long right = zeroY ^ (b * offset);
                int row = (int) (2 * (left & 1) + (right & 1));
                table[row] = zero ^ ((a & b) * offset) ^ hide(left, right, wire);
            }
            if (hasWire(wire)) {
                zeros[wire] = zero;
            }
        }

        /** Bob's part: the colours of the labels he holds tell him the row. */
        private void evaluateAnd(int wire, long left, long right) {
            int row = (int) (2 * (left & 1) + (right & 1));
            if (hasWire(wire)) {
                held[wire] = table[row] ^ hide(left, right, wire);
            }
        }

        /** Of an output's wire alice tells the colour of its zero, and of no other wire. */
        private void tell(Elements outputs) {
            for (int k = 0; k < outputs.amount; k++) {
                long content = 0;
                for (int i = 0; i < outputs.widths[k]; i++) {
                    int wire = outputs.wireOf(k, i);
                    if (hasWire(wire)) {
                        content |= ((zeros[wire] ^ held[wire]) & 1) << i;
                    }
                }
                outputs.fill(k, content);
            }
        }
    }

    /** A CIRCUIT's text becomes gates. */
    private static final class CircuitReader {
        private static final int MOST_GATES = 2000;
        private static final int MOST_WIRES = 4000;
        private static final int MOST_PARTY_BITS = 500;
        private static final int MOST_DIGITS = 9;
        private static final int PIECE = 64;

        private final Gates gates;
        private final Elements alice;
        private final Elements bob;
        private final Elements outputs;
        private final int[] made = new int[MOST_WIRES];
        private byte[] text = new byte[0];
        private int length;
        private int at;
        private int wires;
        private int lines;
        private int ands;
        int faultStart;

        CircuitReader(Gates gates, Elements alice, Elements bob, Elements outputs) {
            this.gates = gates;
            this.alice = alice;
            this.bob = bob;
            this.outputs = outputs;
        }

        int size(int what) {
            return what == 4 ? ands : what == 5 ? lines : wires;
        }

        void read(byte[] bytes, int size) {
            text = bytes;
            length = Math.min(size, bytes.length);
            at = 0;
            ands = 0;
            Arrays.fill(made, NONE);
            lines = number(1, MOST_GATES);
            take(' ');
            wires = number(1, MOST_WIRES);
            take('\n');
            readInputs();
            number(1, 1);
            take(' ');
            int told = number(1, Math.min(MOST_PARTY_BITS, wires));
            take('\n');
            take('\n');
            for (int line = 0; line < lines; line++) {
                readGate();
            }
            if (at < length) {
                fail(at);
            }
            keepOutputs(told);
        }

        private void readInputs() {
            number(2, 2);
            take(' ');
            int a = number(1, MOST_PARTY_BITS);
            take(' ');
            int b = number(1, Math.min(MOST_PARTY_BITS, wires - a));
            take('\n');
            keepInputs(alice, 0, a);
            keepInputs(bob, a, b);
        }

        private void keepInputs(Elements sort, int first, int width) {
            addPieces(sort, width);
            for (int wire = first; wire < first + width && wire < MOST_WIRES; wire++) {
                made[wire] = gates.input();
                sort.addWire(made[wire]);
            }
        }

        private void keepOutputs(int width) {
            addPieces(outputs, width);
            for (int wire = Math.max(0, wires - width); wire < wires && wire < MOST_WIRES; wire++) {
                if (made[wire] == NONE) {
                    fail(length);
                }
                outputs.addWire(made[wire]);
            }
        }

        private void addPieces(Elements sort, int width) {
            for (int first = 0; first < width; first += PIECE) {
                sort.addElement(Math.min(PIECE, width - first));
            }
        }

        private void readGate() {
            int ins = number(1, 2);
            take(' ');
            number(1, 1);
            take(' ');
            int x = madeWire();
            int y = ins == 2 ? madeWire() : x;
            int z = freeWire();
            if (ins == 2 && byteAt(at) == 'X') {
                spell("XOR");
                made[z] = gates.xor(x, y);
            } else if (ins == 2) {
                spell("AND");
                made[z] = gates.and(x, y);
                ands++;
            } else if (byteAt(at) == 'I') {
                spell("INV");
                made[z] = gates.not(x);
            } else {
                spell("EQW");
                made[z] = x;
            }
            take('\n');
        }

        private int madeWire() {
            int start = at;
            int wire = number(0, wires - 1);
            if (wire >= MOST_WIRES || made[wire] == NONE) {
                fail(start);
            }
            take(' ');
            return made[wire];
        }

        private int freeWire() {
            int start = at;
            int wire = number(0, wires - 1);
            if (wire >= MOST_WIRES || made[wire] != NONE) {
                fail(start);
            }
            take(' ');
            return wire;
        }

        private int number(int least, int most) {
            int start = at;
            int digits = 0;
            int found = 0;
            for (; digits <= MOST_DIGITS && isDigit(byteAt(at)); digits++) {
                if (digits == MOST_DIGITS || (digits == 1 && found == 0)) {
                    fail(at);
                }
                found = 10 * found + byteAt(at) - '0';
                at++;
            }
            if (digits == 0 || found < least || found > most) {
                fail(start);
            }
            return found;
        }

        private void spell(String word) {
            for (int i = 0; i < word.length(); i++) {
                take(word.charAt(i));
            }
        }

        private void take(int c) {
            if (byteAt(at) != c) {
                fail(at);
            }
            at++;
        }

        private int byteAt(int i) {
            return i >= 0 && i < length && i < text.length ? text[i] & 255 : NONE;
        }

        private void fail(int start) {
            faultStart = start;
            throw new IllegalStateException();
        }
    }

    /** The words of a PROGRAM's text, each with its place, and the FAULT that was found in it. */
    private static final class Words {
        static final int END = 0;
        static final int NAME = 1;
        static final int NUMBER = 2;
        static final int BASE = 3;
        /** In the order of RESERVED. A sign of one byte is its byte, one of two is both. */
        static final int ALICE = 4;
        static final int BOB = 5;
        static final int ELSE = 6;
        static final int FALSE = 7;
        static final int FN = 8;
        static final int FOR = 9;
        static final int IF = 10;
        static final int IN = 11;
        static final int LET = 12;
        static final int OUTPUT = 13;
        static final int RETURN = 14;
        static final int TRUE = 15;
        static final int LESS_EQUAL = '<' * 256 + '=';
        static final int MORE_EQUAL = '>' * 256 + '=';
        static final int EQUAL = '=' * 256 + '=';
        static final int UNEQUAL = '!' * 256 + '=';
        static final int BOTH = '&' * 256 + '&';
        static final int EITHER = '|' * 256 + '|';
        static final int LEFT = '<' * 256 + '<';
        static final int RIGHT = '>' * 256 + '>';
        static final int DOTS = '.' * 256 + '.';

        private static final String RESERVED =
            "alice bob else false fn for if in let output return true ";
        private static final String SIGNS = "()[]{},;=+-*/%&|^~!<>";
        private static final int LONGEST_NAME = 12;
        private static final int LONGEST_NUMBER = 18;
        private static final int MOST_NAMES = 2001;
        private static final int UNKNOWN = 1;

        private final int[] kinds = new int[MOST_BYTES + 1];
        private final int[] starts = new int[MOST_BYTES + 1];
        /** A NUMBER's number, which NAME a NAME is, a BASE's type. */
        private final long[] numbers = new long[MOST_BYTES + 1];
        private final int[] nameStarts = new int[MOST_NAMES];
        private final int[] nameLengths = new int[MOST_NAMES];
        private byte[] text = new byte[0];
        private int length;
        private int amount;
        private int names;
        int faultKind;
        int faultStart;

        void scan(byte[] bytes, int size) {
            text = bytes;
            length = Math.min(size, bytes.length);
            amount = 0;
            names = 0;
            int at = 0;
            for (int n = 0; n < length && at < length; n++) {
                at = scanOne(at);
            }
            add(END, length, 0);
        }

        int kindAt(int word) {
            return word >= 0 && word < amount ? kinds[word] : END;
        }

        long numberAt(int word) {
            return word >= 0 && word < amount ? numbers[word] : 0;
        }

        int nameAt(int word) {
            return (int) numberAt(word);
        }

        void fail(int kind, int word) {
            faultKind = kind;
            faultStart = word >= 0 && word < amount ? starts[word] : length;
            throw new IllegalStateException();
        }

        private void failAt(int kind, int start) {
            faultKind = kind;
            faultStart = start;
            throw new IllegalStateException();
        }

        private void add(int kind, int start, long number) {
            if (amount < kinds.length) {
                kinds[amount] = kind;
                starts[amount] = start;
                numbers[amount] = number;
                amount++;
            }
        }

        private int byteAt(int i) {
            return i >= 0 && i < length && i < text.length ? text[i] & 255 : NONE;
        }

        /** Answers where to go on. */
        private int scanOne(int at) {
            int c = byteAt(at);
            if (c == ' ' || c == '\t' || c == '\n' || c == '\r') {
                return at + 1;
            }
            if (c == '#') {
                return lineEnd(at);
            }
            if (isLetter(c)) {
                return scanLetters(at);
            }
            return isDigit(c) ? scanDigits(at) : scanSign(at, c);
        }

        private int lineEnd(int at) {
            int to = at;
            while (to < length && byteAt(to) != '\n') {
                to++;
            }
            return to;
        }

        private int scanLetters(int at) {
            int to = at;
            while (to < length && isNamePart(byteAt(to))) {
                to++;
            }
            if (to - at > LONGEST_NAME) {
                failAt(UNKNOWN, at);
            }
            int base = baseOf(at, to - at);
            int kind = base != 0 ? BASE : reservedKind(at, to - at);
            add(kind, at, kind == NAME ? nameNumber(at, to - at) : base);
            return to;
        }

        private static boolean isNamePart(int c) {
            return isLetter(c) || isDigit(c) || c == '_';
        }

        private int scanDigits(int at) {
            int to = at;
            long number = 0;
            while (to < length && isDigit(byteAt(to))) {
                number = 10 * number + byteAt(to) - '0';
                to++;
            }
            if (to - at > LONGEST_NUMBER) {
                failAt(UNKNOWN, at);
            }
            add(NUMBER, at, number);
            return to;
        }

        private int scanSign(int at, int c) {
            int pair = c * 256 + byteAt(at + 1);
            if (isPair(pair)) {
                add(pair, at, 0);
                return at + 2;
            }
            if (SIGNS.indexOf((char) c) < 0) {
                failAt(UNKNOWN, at);
            }
            add(c, at, 0);
            return at + 1;
        }

        private static boolean isPair(int pair) {
            switch (pair) {
                case LESS_EQUAL:
                case MORE_EQUAL:
                case EQUAL:
                case UNEQUAL:
                case BOTH:
                case EITHER:
                case LEFT:
                case RIGHT:
                case DOTS:
                    return true;
                default:
                    return false;
            }
        }

        private int reservedKind(int start, int size) {
            int kind = ALICE;
            int from = 0;
            for (int i = 0; i < RESERVED.length(); i++) {
                if (RESERVED.charAt(i) == ' ') {
                    if (i - from == size && isReserved(from, start, size)) {
                        return kind;
                    }
                    kind++;
                    from = i + 1;
                }
            }
            return NAME;
        }

        private boolean isReserved(int from, int start, int size) {
            for (int i = 0; i < size && from + i < RESERVED.length(); i++) {
                if (RESERVED.charAt(from + i) != byteAt(start + i)) {
                    return false;
                }
            }
            return true;
        }

        /** The type that a B's word names; 0 if it names none. */
        private int baseOf(int start, int size) {
            int first = byteAt(start);
            if (size == 4 && first == 'b' && byteAt(start + 1) == 'o'
                && byteAt(start + 2) == 'o' && byteAt(start + 3) == 'l') {
                return Values.BOOL;
            }
            if ((first != 'u' && first != 'i') || size < 2 || size > 3
                || byteAt(start + 1) == '0') {
                return 0;
            }
            int width = 0;
            for (int i = 1; i < size; i++) {
                if (!isDigit(byteAt(start + i))) {
                    return 0;
                }
                width = 10 * width + byteAt(start + i) - '0';
            }
            if (width > 64 || (first == 'i' && width < 2)) {
                return 0;
            }
            return first == 'i' ? Values.SIGNED + width : width;
        }

        private int nameNumber(int start, int size) {
            for (int i = 0; i < names; i++) {
                if (nameLengths[i] == size && sameBytes(nameStarts[i], start, size)) {
                    return i;
                }
            }
            if (names < MOST_NAMES) {
                nameStarts[names] = start;
                nameLengths[names] = size;
                names++;
            }
            return names - 1;
        }

        private boolean sameBytes(int one, int other, int size) {
            for (int i = 0; i < size; i++) {
                if (byteAt(one + i) != byteAt(other + i)) {
                    return false;
                }
            }
            return true;
        }
    }

    /** What the parser makes of a program: steps for a machine with a stack, and its FNs. */
    private static final class Code {
        static final int STEP = 0;
        static final int INPUT = 1;
        static final int LET = 2;
        static final int TARGET = 3;
        static final int TARGET_ROW = 4;
        static final int ASSIGN = 5;
        static final int ASSIGN_ELEMENT = 6;
        static final int IF = 7;
        static final int ELSE = 8;
        static final int END_IF = 9;
        static final int FOR = 10;
        static final int AGAIN = 11;
        static final int MAY_OUTPUT = 12;
        static final int OUTPUT = 13;
        static final int CALL = 14;
        static final int PAY_CALL = 15;
        static final int ARGUMENT = 16;
        static final int ENTER = 17;
        static final int RETURN = 18;
        static final int NUMBER = 19;
        static final int TRUTH = 20;
        static final int NAME = 21;
        static final int NEGATE = 22;
        static final int FLIP = 23;
        static final int NOT = 24;
        static final int SIGN = 25;
        static final int CAST = 26;
        static final int ROW = 27;
        static final int NEED_ROW = 28;
        static final int LOOK_INDEX = 29;
        static final int INDEX = 30;

        /** No text has more: '[a]' is the densest, three bytes for four steps. */
        private static final int MOST_STEPS = 6000;
        /** No text has more: the shortest FN has 19 bytes. */
        static final int MOST_FNS = 256;
        static final int MOST_PARAMETERS = 8;

        final int[] fnWords = new int[MOST_FNS];
        final int[] fnStarts = new int[MOST_FNS];
        final int[] resultWords = new int[MOST_FNS];
        final int[] results = new int[MOST_FNS];
        final int[] parameterAmounts = new int[MOST_FNS];
        final int[] parameterWords = new int[MOST_FNS * MOST_PARAMETERS];
        final int[] parameterTypes = new int[MOST_FNS * MOST_PARAMETERS];
        private final int[] acts = new int[MOST_STEPS];
        private final int[] words = new int[MOST_STEPS];
        private final int[] mores = new int[MOST_STEPS];
        int amount;
        int mainStart;
        int fns;

        void clear() {
            amount = 0;
            mainStart = 0;
            fns = 0;
        }

        /** Answers where the step stands. */
        int add(int act, int word, int more) {
            if (amount >= MOST_STEPS) {
                return NONE;
            }
            acts[amount] = act;
            words[amount] = word;
            mores[amount] = more;
            amount++;
            return amount - 1;
        }

        void setMore(int step, int more) {
            if (has(step)) {
                mores[step] = more;
            }
        }

        boolean has(int step) {
            return step >= 0 && step < amount;
        }

        int actAt(int step) {
            return has(step) ? acts[step] : STEP;
        }

        int wordAt(int step) {
            return has(step) ? words[step] : 0;
        }

        int moreAt(int step) {
            return has(step) ? mores[step] : 0;
        }

        boolean hasFn(int fn) {
            return fn >= 0 && fn < fns;
        }
    }

    /** The grammar: words become code, or there is FAULT 2. */
    private static final class Parser {
        private static final int DEEPEST = 40;
        /** An E has at most one waiting sign for each of ten bindings, and Es stand 41 deep. */
        private static final int MOST_WAITING = 512;

        private final Words words;
        private final Code code;
        private final int[] waiting = new int[MOST_WAITING];
        private int waits;
        private int at;

        Parser(Words words, Code code) {
            this.words = words;
            this.code = code;
        }

        void parse() {
            code.clear();
            waits = 0;
            at = 0;
            for (int n = 0; n < MOST_BYTES && kind() == Words.FN; n++) {
                function();
            }
            code.mainStart = code.amount;
            for (int n = 0; n < MOST_BYTES && isParty(kind()); n++) {
                input();
            }
            statements(0);
            take(Words.END);
        }

        private int kind() {
            return words.kindAt(at);
        }

        private void take(int kind) {
            if (kind() != kind) {
                fail();
            }
            at++;
        }

        private void fail() {
            words.fail(WRONG_FORM, at);
        }

        private static boolean isParty(int kind) {
            return kind == Words.ALICE || kind == Words.BOB;
        }

        private void function() {
            int fn = code.fns;
            take(Words.FN);
            if (fn >= Code.MOST_FNS) {
                fail();
            }
            code.fnWords[fn] = at;
            take(Words.NAME);
            take('(');
            parameters(fn);
            take(')');
            code.resultWords[fn] = at;
            type();
            take('{');
            code.fnStarts[fn] = code.amount;
            code.fns++;
            statements(1);
            take(Words.RETURN);
            int first = at;
            expression(1);
            take(';');
            code.add(Code.RETURN, first, 0);
            take('}');
        }

        private void parameters(int fn) {
            int amount = 0;
            boolean more = kind() != ')';
            for (int n = 0; n <= Code.MOST_PARAMETERS && more; n++) {
                if (amount == Code.MOST_PARAMETERS) {
                    fail();
                }
                code.parameterWords[fn * Code.MOST_PARAMETERS + amount] = at;
                amount++;
                take(Words.NAME);
                type();
                more = kind() == ',';
                at += more ? 1 : 0;
            }
            code.parameterAmounts[fn] = amount;
        }

        private void type() {
            take(Words.BASE);
            if (kind() == '[') {
                take('[');
                take(Words.NUMBER);
                take(']');
            }
        }

        private void input() {
            code.add(Code.INPUT, at, 0);
            at++;
            take(Words.NAME);
            type();
            take(';');
        }

        private void statements(int depth) {
            for (int n = 0; n < MOST_BYTES && beginsStatement(kind()); n++) {
                statement(depth);
            }
        }

        private static boolean beginsStatement(int kind) {
            return kind == Words.LET || kind == Words.NAME || kind == Words.IF
                || kind == Words.FOR || kind == Words.OUTPUT;
        }

        private void statement(int depth) {
            if (depth > DEEPEST) {
                fail();
            }
            code.add(Code.STEP, at, 0);
            switch (kind()) {
                case Words.LET:
                    let(depth);
                    break;
                case Words.IF:
                    decision(depth);
                    break;
                case Words.FOR:
                    loop(depth);
                    break;
                case Words.OUTPUT:
                    output(depth);
                    break;
                default:
                    assignment(depth);
                    break;
            }
        }

        private void let(int depth) {
            at++;
            int name = at;
            take(Words.NAME);
            take('=');
            expression(depth);
            take(';');
            code.add(Code.LET, name, 0);
        }

        private void output(int depth) {
            int word = at;
            code.add(Code.MAY_OUTPUT, word, 0);
            at++;
            expression(depth);
            take(';');
            code.add(Code.OUTPUT, word, 0);
        }

        private void assignment(int depth) {
            int name = at;
            int act = Code.ASSIGN;
            take(Words.NAME);
            code.add(Code.TARGET, name, 0);
            if (kind() == '[') {
                act = Code.ASSIGN_ELEMENT;
                code.add(Code.TARGET_ROW, at, name);
                index(depth);
            }
            take('=');
            int first = at;
            expression(depth);
            take(';');
            code.add(act, name, first);
        }

        private void decision(int depth) {
            at++;
            int first = at;
            expression(depth);
            code.add(Code.IF, first, 0);
            block(depth);
            if (kind() == Words.ELSE) {
                code.add(Code.ELSE, at, 0);
                at++;
                block(depth);
            }
            code.add(Code.END_IF, first, 0);
        }

        private void loop(int depth) {
            at++;
            int name = at;
            take(Words.NAME);
            take(Words.IN);
            take(Words.NUMBER);
            take(Words.DOTS);
            take(Words.NUMBER);
            int start = code.add(Code.FOR, name, 0);
            block(depth);
            code.add(Code.AGAIN, name, start);
            code.setMore(start, code.amount);
        }

        private void block(int depth) {
            take('{');
            statements(depth + 1);
            take('}');
        }

        /** Signs wait on a stack until a weaker one comes, so that bindings need no recursion. */
        private void expression(int depth) {
            int base = waits;
            operand(depth);
            for (int n = 0; n < MOST_BYTES && binding(kind()) > 0; n++) {
                settleSigns(base, binding(kind()));
                if (waits >= MOST_WAITING) {
                    fail();
                }
                waiting[waits] = at;
                waits++;
                at++;
                operand(depth);
            }
            settleSigns(base, 0);
        }

        private void settleSigns(int base, int weakest) {
            for (int n = waits; n > base && n > 0; n--) {
                int sign = waiting[n - 1];
                if (binding(words.kindAt(sign)) < weakest) {
                    return;
                }
                code.add(Code.SIGN, sign, 0);
                waits = n - 1;
            }
        }

        private static int binding(int kind) {
            switch (kind) {
                case Words.EITHER:
                    return 1;
                case Words.BOTH:
                    return 2;
                case '|':
                    return 3;
                case '^':
                    return 4;
                case '&':
                    return 5;
                case Words.EQUAL:
                case Words.UNEQUAL:
                    return 6;
                case '<':
                case '>':
                case Words.LESS_EQUAL:
                case Words.MORE_EQUAL:
                    return 7;
                case Words.LEFT:
                case Words.RIGHT:
                    return 8;
                case '+':
                case '-':
                    return 9;
                case '*':
                case '/':
                case '%':
                    return 10;
                default:
                    return 0;
            }
        }

        private void operand(int depth) {
            if (depth > DEEPEST) {
                fail();
            }
            int sign = at;
            int act = actAhead(kind());
            if (act != NONE) {
                at++;
                operand(depth + 1);
                code.add(act, sign, 0);
                return;
            }
            primary(depth);
            for (int n = 0; n < MOST_BYTES && kind() == '['; n++) {
                int bracket = at;
                code.add(Code.NEED_ROW, bracket, 0);
                index(depth);
                code.add(Code.INDEX, bracket, 0);
            }
        }

        private static int actAhead(int kind) {
            return kind == '-' ? Code.NEGATE : kind == '~' ? Code.FLIP
                : kind == '!' ? Code.NOT : NONE;
        }

        private void index(int depth) {
            take('[');
            int first = at;
            expression(depth + 1);
            code.add(Code.LOOK_INDEX, first, 0);
            take(']');
        }

        private void primary(int depth) {
            switch (kind()) {
                case Words.NUMBER:
                    code.add(Code.NUMBER, at, 0);
                    at++;
                    break;
                case Words.TRUE:
                case Words.FALSE:
                    code.add(Code.TRUTH, at, kind() == Words.TRUE ? 1 : 0);
                    at++;
                    break;
                case Words.NAME:
                    nameOrCall(depth);
                    break;
                case Words.BASE:
                    cast(depth);
                    break;
                case '(':
                    at++;
                    expression(depth + 1);
                    take(')');
                    break;
                case '[':
                    row(depth);
                    break;
                default:
                    fail();
                    break;
            }
        }

        private void cast(int depth) {
            int type = (int) words.numberAt(at);
            at++;
            int bracket = at;
            take('(');
            expression(depth + 1);
            take(')');
            code.add(Code.CAST, bracket, type);
        }

        private void nameOrCall(int depth) {
            int name = at;
            at++;
            if (kind() != '(') {
                code.add(Code.NAME, name, 0);
                return;
            }
            at++;
            int call = code.add(Code.CALL, name, 0);
            code.add(Code.PAY_CALL, name, depth);
            int amount = 0;
            boolean more = kind() != ')';
            for (int n = 0; n < MOST_BYTES && more; n++) {
                int first = at;
                expression(depth + 1);
                code.add(Code.ARGUMENT, first, amount);
                amount++;
                more = kind() == ',';
                at += more ? 1 : 0;
            }
            take(')');
            code.setMore(call, amount);
            code.add(Code.ENTER, name, depth);
        }

        private void row(int depth) {
            int bracket = at;
            int amount = 0;
            boolean more = true;
            at++;
            for (int n = 0; n < MOST_BYTES && more; n++) {
                expression(depth + 1);
                amount++;
                more = kind() == ',';
                at += more ? 1 : 0;
            }
            take(']');
            code.add(Code.ROW, bracket, amount);
        }
    }

    /** The values that wait for what is done to them, and what their types are. */
    private static final class Values {
        /** A type is its bits, SIGNED for an i, and ROW for each element of a row. */
        static final int LOOSE = 0;
        static final int SIGNED = 128;
        static final int BOOL = 256 + 1;
        static final int I32 = SIGNED + 32;
        static final int ROW = 512;
        /** No text has more: each value has a word of its own, and one between it and the next. */
        private static final int MOST = 2048;

        private final int[] types = new int[MOST];
        private final int[] wheres = new int[MOST];
        private final long[] numbers = new long[MOST];
        private final int[] words = new int[MOST];
        int top;

        static int width(int type) {
            return type & 127;
        }

        static int elements(int type) {
            return type / ROW;
        }

        static int elementType(int type) {
            return type % ROW;
        }

        static int allBits(int type) {
            return width(type) * Math.max(1, elements(type));
        }

        static boolean isRow(int type) {
            return type >= ROW;
        }

        static boolean isNumber(int type) {
            return type != LOOSE && type != BOOL && type < ROW;
        }

        static boolean isSigned(int type) {
            return (type & SIGNED) != 0;
        }

        /** A LOOSE number has at most 18 digits, so that 63 bits hold each that is not below 0. */
        static boolean holds(int type, long number) {
            if (!isNumber(type)) {
                return false;
            }
            int room = isSigned(type) ? width(type) - 1 : width(type);
            if (number < 0) {
                return isSigned(type) && (room >= 63 || number >= -(1L << room));
            }
            return room >= 63 || number < 1L << room;
        }

        boolean has(int slot) {
            return slot >= 0 && slot < top;
        }

        int typeAt(int slot) {
            return has(slot) ? types[slot] : LOOSE;
        }

        int whereAt(int slot) {
            return has(slot) ? wheres[slot] : 0;
        }

        long numberAt(int slot) {
            return has(slot) ? numbers[slot] : 0;
        }

        int wordAt(int slot) {
            return has(slot) ? words[slot] : 0;
        }

        void push(int type, int where) {
            if (top < MOST) {
                top++;
                set(top - 1, type, where);
            }
        }

        void pushLoose(long number, int word) {
            if (top < MOST) {
                types[top] = LOOSE;
                numbers[top] = number;
                words[top] = word;
                top++;
            }
        }

        void set(int slot, int type, int where) {
            if (has(slot)) {
                types[slot] = type;
                wheres[slot] = where;
            }
        }

        void drop(int amount) {
            top = Math.max(0, top - amount);
        }
    }

    /** The NAMES that count now; those of a caller stand below the base and are not seen. */
    private static final class Names {
        /** No text has more: each has five bytes of its own, as a P has, for no FN calls itself. */
        private static final int MOST = 1024;

        private final int[] names = new int[MOST];
        private final int[] types = new int[MOST];
        private final int[] wheres = new int[MOST];
        private final long[] numbers = new long[MOST];
        int amount;
        int base;

        void clear() {
            amount = 0;
            base = 0;
        }

        int find(int name) {
            for (int i = amount - 1; i >= base && i >= 0; i--) {
                if (names[i] == name) {
                    return i;
                }
            }
            return NONE;
        }

        void add(int name, int type, int where, long number) {
            if (amount < MOST) {
                names[amount] = name;
                types[amount] = type;
                wheres[amount] = where;
                numbers[amount] = number;
                amount++;
            }
        }

        void release(int mark) {
            amount = Math.max(0, Math.min(amount, mark));
        }

        boolean has(int i) {
            return i >= 0 && i < amount;
        }

        int typeAt(int i) {
            return has(i) ? types[i] : Values.LOOSE;
        }

        int whereAt(int i) {
            return has(i) ? wheres[i] : 0;
        }

        long numberAt(int i) {
            return has(i) ? numbers[i] : 0;
        }

        void move(int i, int where) {
            if (has(i)) {
                wheres[i] = where;
            }
        }
    }

    /** Arithmetic made of gates. A value is where its wires stand in the pool, the lowest first. */
    private static final class Reckoner {
        /** 2000 bits of inputs and a COST of 3000 can't fill it: none takes two wires a unit. */
        private static final int MOST = 8192;
        private static final int MOST_BITS = 64;

        private final Gates gates;
        private final int[] pool = new int[MOST];
        private final int[] rest = new int[MOST_BITS + 1];
        private final int[] less = new int[MOST_BITS];
        private int used;

        Reckoner(Gates gates) {
            this.gates = gates;
        }

        /** What stands at 0 is false, at 1 true. */
        void clear() {
            used = 2;
            pool[0] = 0;
            pool[1] = 1;
        }

        int take(int size) {
            if (size < 0 || size > MOST - used) {
                return 0;
            }
            used += size;
            return used - size;
        }

        int wire(int at) {
            return at >= 0 && at < used ? pool[at] : 0;
        }

        void set(int at, int wire) {
            if (at > 1 && at < used) {
                pool[at] = wire;
            }
        }

        int input(int size) {
            int to = take(size);
            for (int i = 0; i < size; i++) {
                set(to + i, gates.input());
            }
            return to;
        }

        int constant(long number, int width) {
            int to = take(width);
            for (int i = 0; i < width; i++) {
                set(to + i, (int) (number >> Math.min(i, 63) & 1));
            }
            return to;
        }

        private int single(int wire) {
            int to = take(1);
            set(to, wire);
            return to;
        }

        void copy(int from, int to, int size) {
            for (int i = 0; i < size; i++) {
                set(to + i, wire(from + i));
            }
        }

        int reckon(int sign, int x, int y, int type) {
            int width = Values.width(type);
            boolean signed = Values.isSigned(type);
            switch (sign) {
                case '+':
                    return sum(x, y, width, 0);
                case '-':
                    return sum(x, y, width, 1);
                case '*':
                    return product(x, y, width);
                case '/':
                    return divide(x, y, type, false);
                case '%':
                    return divide(x, y, type, true);
                case Words.EQUAL:
                    return single(gates.not(differ(x, y, width)));
                case Words.UNEQUAL:
                    return single(differ(x, y, width));
                case '<':
                    return single(below(x, y, width, signed));
                case '>':
                    return single(below(y, x, width, signed));
                case Words.LESS_EQUAL:
                    return single(gates.not(below(y, x, width, signed)));
                case Words.MORE_EQUAL:
                    return single(gates.not(below(x, y, width, signed)));
                default:
                    return bitwise(sign, x, y, width);
            }
        }

        private int bitwise(int sign, int x, int y, int width) {
            int to = take(width);
            for (int i = 0; i < width; i++) {
                int a = wire(x + i);
                int b = wire(y + i);
                if (sign == '^') {
                    set(to + i, gates.xor(a, b));
                } else if (sign == '&' || sign == Words.BOTH) {
                    set(to + i, gates.and(a, b));
                } else {
                    set(to + i, gates.or(a, b));
                }
            }
            return to;
        }

        int flip(int x, int width) {
            int to = take(width);
            for (int i = 0; i < width; i++) {
                set(to + i, gates.not(wire(x + i)));
            }
            return to;
        }

        /** -x where the test is true, else x: one row of gates serves signs that are not known. */
        int negate(int x, int width, int test) {
            int to = take(width);
            int carry = test;
            for (int i = 0; i < width; i++) {
                int a = gates.xor(wire(x + i), test);
                set(to + i, gates.xor(a, carry));
                carry = gates.and(a, carry);
            }
            return to;
        }

        /** x + y, or x - y if minus is 1. */
        private int sum(int x, int y, int width, int minus) {
            int to = take(width);
            int carry = minus;
            for (int i = 0; i < width; i++) {
                carry = addBit(to + i, wire(x + i), gates.xor(wire(y + i), minus), carry);
            }
            return to;
        }

        private int addBit(int to, int a, int b, int carry) {
            int left = gates.xor(a, carry);
            int right = gates.xor(b, carry);
            set(to, gates.xor(left, b));
            return gates.xor(gates.and(left, right), carry);
        }

        private int product(int x, int y, int width) {
            int to = take(width);
            for (int i = 0; i < width; i++) {
                set(to + i, gates.and(wire(x + i), wire(y)));
            }
            for (int j = 1; j < width; j++) {
                int carry = 0;
                for (int i = j; i < width; i++) {
                    int part = gates.and(wire(x + i - j), wire(y + j));
                    carry = addBit(to + i, wire(to + i), part, carry);
                }
            }
            return to;
        }

        private int differ(int x, int y, int width) {
            int found = 0;
            for (int i = 0; i < width; i++) {
                found = gates.or(found, gates.xor(wire(x + i), wire(y + i)));
            }
            return found;
        }

        int any(int x, int width) {
            int found = 0;
            for (int i = 0; i < width; i++) {
                found = gates.or(found, wire(x + i));
            }
            return found;
        }

        /** x - y has no carry out of it just when x is below y; signs count the other way round. */
        private int below(int x, int y, int width, boolean signed) {
            int carry = 1;
            for (int i = 0; i < width; i++) {
                boolean isSign = signed && i == width - 1;
                int a = isSign ? gates.not(wire(x + i)) : wire(x + i);
                int b = isSign ? wire(y + i) : gates.not(wire(y + i));
                int both = gates.and(gates.xor(a, carry), gates.xor(b, carry));
                carry = gates.xor(both, carry);
            }
            return gates.not(carry);
        }

        /** By 0 the sizes give all bits 1 by themselves; then no sign may turn them. */
        private int divide(int x, int y, int type, boolean wantsRest) {
            int width = Values.width(type);
            if (!Values.isSigned(type)) {
                return divideSizes(x, y, width, wantsRest);
            }
            int signX = wire(x + width - 1);
            int signY = wire(y + width - 1);
            int sizeX = negate(x, width, signX);
            int sizeY = negate(y, width, signY);
            int size = divideSizes(sizeX, sizeY, width, wantsRest);
            int turn = wantsRest ? signX : gates.and(gates.xor(signX, signY), any(y, width));
            return negate(size, width, turn);
        }

        /** Bit by bit from the highest: what is left of x so far has one bit more than y. */
        private int divideSizes(int x, int y, int width, boolean wantsRest) {
            int to = take(width);
            int flipped = take(width);
            int size = Math.min(width, MOST_BITS);
            Arrays.fill(rest, 0);
            for (int i = 0; i < size; i++) {
                set(flipped + i, gates.xor(wire(y + i), 1));
            }
            for (int step = size - 1; step >= 0; step--) {
                for (int i = size; i > 0; i--) {
                    rest[i] = rest[i - 1];
                }
                rest[0] = wire(x + step);
                int carry = 1;
                for (int i = 0; i < size; i++) {
                    int b = wire(flipped + i);
                    int left = gates.xor(rest[i], carry);
                    int right = gates.xor(b, carry);
                    less[i] = gates.xor(left, b);
                    carry = gates.xor(gates.and(left, right), carry);
                }
                int fits = gates.or(rest[Math.max(0, size)], carry);
                for (int i = 0; i < size; i++) {
                    int other = gates.and(fits, gates.xor(less[i], rest[i]));
                    rest[i] = gates.xor(rest[i], other);
                }
                set(to + step, fits);
            }
            for (int i = 0; wantsRest && i < size; i++) {
                set(to + i, rest[i]);
            }
            return to;
        }

        int shiftBy(int x, int width, long by, boolean left, int filling) {
            int to = take(width);
            int distance = (int) Math.min(by, width);
            for (int i = 0; i < width; i++) {
                int from = left ? i - distance : i + distance;
                set(to + i, from >= 0 && from < width ? wire(x + from) : filling);
            }
            return to;
        }

        /** Each bit of y shifts by its own weight, or by the whole width if that is less. */
        int shift(int x, int width, int y, int yWidth, boolean left, int filling) {
            int to = take(width);
            copy(x, to, width);
            for (int bit = 0; bit < yWidth; bit++) {
                int distance = bit < 6 ? Math.min(1 << bit, width) : width;
                for (int n = 0; n < width; n++) {
                    int i = left ? width - 1 - n : n;
                    int from = left ? i - distance : i + distance;
                    int moved = from >= 0 && from < width ? wire(to + from) : filling;
                    set(to + i, gates.choose(wire(y + bit), moved, wire(to + i)));
                }
            }
            return to;
        }

        int cast(int x, int type, int wanted) {
            int width = Values.width(type);
            if (wanted == Values.BOOL) {
                return single(any(x, width));
            }
            int filling = Values.isSigned(type) ? wire(x + width - 1) : 0;
            int to = take(Values.width(wanted));
            for (int i = 0; i < Values.width(wanted); i++) {
                set(to + i, i < width ? wire(x + i) : filling);
            }
            return to;
        }

        /** Whether an index, of a u or an i, is k. */
        private int isIndex(int index, int type, int k) {
            if (!Values.holds(type, k)) {
                return 0;
            }
            int same = 1;
            for (int i = 0; i < Values.width(type); i++) {
                int wire = wire(index + i);
                boolean one = (k >> Math.min(i, 31) & 1) == 1;
                same = gates.and(same, one ? wire : gates.not(wire));
            }
            return same;
        }

        int elementAt(int row, int rowType, int index, int indexType) {
            int width = Values.width(rowType);
            int to = constant(0, width);
            for (int k = 0; k < Values.elements(rowType); k++) {
                int hit = isIndex(index, indexType, k);
                for (int i = 0; i < width; i++) {
                    int part = gates.and(hit, wire(row + k * width + i));
                    set(to + i, gates.xor(wire(to + i), part));
                }
            }
            return to;
        }

        /** The row with the element of index put in; elsewhere it stays as it was. */
        int withElement(int row, int rowType, int index, int indexType, int element) {
            int width = Values.width(rowType);
            int to = take(Values.allBits(rowType));
            for (int k = 0; k < Values.elements(rowType); k++) {
                int hit = isIndex(index, indexType, k);
                for (int i = 0; i < width; i++) {
                    int at = k * width + i;
                    set(to + at, gates.choose(hit, wire(element + i), wire(row + at)));
                }
            }
            return to;
        }

        int choose(int test, int x, int y, int size) {
            int to = take(size);
            for (int i = 0; i < size; i++) {
                set(to + i, gates.choose(test, wire(x + i), wire(y + i)));
            }
            return to;
        }
    }

    /** What a program means: its code is done once, with wires for values, and becomes gates. */
    private static final class Doer {
        private static final int MOST_COST = 3000;
        private static final int MOST_ROUNDS = 256;
        private static final int MOST_ELEMENTS = 32;
        private static final int DEEPEST_CALL = 20;
        private static final int MOST_FRAMES = 1024;
        /** Far above what can be done: only some fifty steps go without a COST. */
        private static final int MOST_STEPS = 1000000;
        private static final int WRONG_NAME = 3;
        private static final int WRONG_TYPE = 4;
        private static final int TOO_LARGE = 5;
        private static final int TOO_MUCH = 6;

        private final Words words;
        private final Code code;
        private final Gates gates;
        private final Elements alice;
        private final Elements bob;
        private final Elements outputs;
        private final Reckoner reckoner;
        private final Values values;
        private final Names names;
        private final int[] frames = new int[MOST_FRAMES];
        private final int[] called = new int[MOST_FRAMES];
        private int framed;
        private int calls;
        private int at;
        private int spent;
        /** The wire of all ifs around together, and how many they are. */
        private int condition;
        private int ifs;
        private int callDepth;
        /** How many FNs are known where it stands: in a FN that is its own number. */
        private int known;

        Doer(Words words, Code code, Gates gates, Elements alice, Elements bob, Elements outputs) {
            this.words = words;
            this.code = code;
            this.gates = gates;
            this.alice = alice;
            this.bob = bob;
            this.outputs = outputs;
            reckoner = new Reckoner(gates);
            values = new Values();
            names = new Names();
        }

        void perform() {
            begin();
            lookAtFns();
            for (int n = 0; n < MOST_STEPS && code.has(at); n++) {
                int word = code.wordAt(at);
                int more = code.moreAt(at);
                at++;
                switch (code.actAt(at - 1)) {
                    case Code.STEP: spend(1, word); break;
                    case Code.INPUT: takeInput(word); break;
                    case Code.LET: let(word); break;
                    case Code.TARGET: lookAtTarget(word); break;
                    case Code.TARGET_ROW: lookAtTargetRow(word, more); break;
                    case Code.ASSIGN: assign(word, more); break;
                    case Code.ASSIGN_ELEMENT: assignElement(word, more); break;
                    case Code.IF: beginIf(word); break;
                    case Code.ELSE: turnIf(); break;
                    case Code.END_IF: endIf(); break;
                    case Code.FOR: beginLoop(word, more); break;
                    case Code.AGAIN: nextRound(word, more); break;
                    case Code.MAY_OUTPUT: lookAtOutput(word); break;
                    case Code.OUTPUT: output(word); break;
                    case Code.CALL: lookAtCall(word, more); break;
                    case Code.PAY_CALL: payCall(word, more); break;
                    case Code.ARGUMENT: lookAtArgument(word, more); break;
                    case Code.ENTER: enter(more); break;
                    case Code.RETURN: leave(word); break;
                    case Code.NUMBER: values.pushLoose(words.numberAt(word), word); break;
                    case Code.TRUTH: values.push(Values.BOOL, more); break;
                    case Code.NAME: pushName(word); break;
                    case Code.NEGATE: negate(word); break;
                    case Code.FLIP: flip(word); break;
                    case Code.NOT: not(word); break;
                    case Code.SIGN: sign(word); break;
                    case Code.CAST: cast(word, more); break;
                    case Code.ROW: row(word, more); break;
                    case Code.NEED_ROW: needRow(word); break;
                    case Code.LOOK_INDEX: lookAtIndex(word); break;
                    case Code.INDEX: index(word); break;
                    default: break;
                }
            }
        }

        private void begin() {
            reckoner.clear();
            names.clear();
            values.top = 0;
            framed = 0;
            calls = 0;
            spent = 0;
            condition = 1;
            ifs = 0;
            callDepth = 0;
            known = code.fns;
            at = code.mainStart;
        }

        private void spend(int cost, int word) {
            spent += cost;
            if (spent > MOST_COST) {
                words.fail(TOO_MUCH, word);
            }
        }

        private void push(int number) {
            if (framed < MOST_FRAMES) {
                frames[framed] = number;
                framed++;
            }
        }

        private int pop() {
            if (framed > 0) {
                framed--;
            }
            return frames[framed];
        }

        /** What was pushed so many pushes ago, the latest being 1. */
        private int frame(int back) {
            return back > 0 && back <= framed ? frames[framed - back] : 0;
        }

        private int typeAt(int word) {
            int base = (int) words.numberAt(word);
            if (words.kindAt(word + 1) != '[') {
                return base;
            }
            long elements = words.numberAt(word + 2);
            if (elements < 1 || elements > MOST_ELEMENTS) {
                words.fail(WRONG_TYPE, word + 2);
            }
            return base + Values.ROW * (int) elements;
        }

        private int findFn(int name, int among) {
            for (int fn = 0; fn < among && fn < Code.MOST_FNS; fn++) {
                if (words.nameAt(code.fnWords[fn]) == name) {
                    return fn;
                }
            }
            return NONE;
        }

        private void lookAtFns() {
            for (int fn = 0; fn < code.fns && fn < Code.MOST_FNS; fn++) {
                int word = code.fnWords[fn];
                if (findFn(words.nameAt(word), fn) != NONE) {
                    words.fail(WRONG_NAME, word);
                }
                lookAtParameters(fn * Code.MOST_PARAMETERS, code.parameterAmounts[fn]);
                code.results[fn] = typeAt(code.resultWords[fn]);
            }
        }

        private void lookAtParameters(int first, int amount) {
            for (int i = first; i < first + amount && i < code.parameterWords.length; i++) {
                int word = code.parameterWords[i];
                for (int j = first; j < i; j++) {
                    if (words.nameAt(code.parameterWords[j]) == words.nameAt(word)) {
                        words.fail(WRONG_NAME, word);
                    }
                }
                code.parameterTypes[i] = typeAt(word + 1);
            }
        }

        private void takeInput(int word) {
            Elements sort = words.kindAt(word) == Words.ALICE ? alice : bob;
            int type = typeAt(word + 2);
            if (names.find(words.nameAt(word + 1)) != NONE) {
                words.fail(WRONG_NAME, word + 1);
            }
            if (!sort.hasRoom(Math.max(1, Values.elements(type)), Values.width(type))) {
                words.fail(TOO_MUCH, word + 1);
            }
            int where = reckoner.input(Values.allBits(type));
            addElements(sort, type, where);
            names.add(words.nameAt(word + 1), type, where, 0);
        }

        private void addElements(Elements sort, int type, int where) {
            int width = Values.width(type);
            for (int k = 0; k < Math.max(1, Values.elements(type)); k++) {
                sort.addElement(width);
                for (int i = 0; i < width; i++) {
                    sort.addWire(reckoner.wire(where + k * width + i));
                }
            }
        }

        /** A LOOSE value becomes of a type; others stay as they are. */
        private void settle(int slot, int type) {
            if (values.typeAt(slot) != Values.LOOSE) {
                return;
            }
            int word = values.wordAt(slot);
            long number = values.numberAt(slot);
            if (!Values.holds(type, number)) {
                words.fail(TOO_LARGE, word);
            }
            spend(Values.width(type), word);
            values.set(slot, type, reckoner.constant(number, Values.width(type)));
        }

        /** The topmost value must be of the type, LOOSE ones becoming so. */
        private void demand(int type, int word) {
            settle(values.top - 1, type);
            if (values.typeAt(values.top - 1) != type) {
                words.fail(WRONG_TYPE, word);
            }
        }

        private void replace(int taken, int type, int where) {
            values.drop(taken);
            values.push(type, where);
        }

        private void let(int word) {
            int slot = values.top - 1;
            settle(slot, Values.I32);
            if (names.find(words.nameAt(word)) != NONE) {
                words.fail(WRONG_NAME, word);
            }
            names.add(words.nameAt(word), values.typeAt(slot), values.whereAt(slot), 0);
            values.drop(1);
        }

        private void lookAtTarget(int word) {
            int name = names.find(words.nameAt(word));
            if (name == NONE) {
                words.fail(WRONG_NAME, word);
            }
            if (names.typeAt(name) == Values.LOOSE) {
                words.fail(WRONG_TYPE, word);
            }
        }

        private void lookAtTargetRow(int bracket, int word) {
            if (!Values.isRow(names.typeAt(names.find(words.nameAt(word))))) {
                words.fail(WRONG_TYPE, bracket);
            }
        }

        private void assign(int word, int first) {
            int name = names.find(words.nameAt(word));
            demand(names.typeAt(name), first);
            int where = values.whereAt(values.top - 1);
            values.drop(1);
            rebind(name, word, where);
        }

        private void assignElement(int word, int first) {
            int name = names.find(words.nameAt(word));
            int type = names.typeAt(name);
            demand(Values.elementType(type), first);
            int element = values.whereAt(values.top - 1);
            values.drop(1);
            int slot = values.top - 1;
            int where;
            if (values.typeAt(slot) == Values.LOOSE) {
                spend(Values.allBits(type), word + 1);
                where = withElement(names.whereAt(name), type, values.numberAt(slot), element);
            } else {
                spend(indexCost(type, values.typeAt(slot)), word + 1);
                where = reckoner.withElement(names.whereAt(name), type, values.whereAt(slot),
                    values.typeAt(slot), element);
            }
            values.drop(1);
            rebind(name, word, where);
        }

        private int withElement(int row, int type, long k, int element) {
            if (k < 0 || k >= Values.elements(type)) {
                return row;
            }
            int width = Values.width(type);
            int to = reckoner.take(Values.allBits(type));
            reckoner.copy(row, to, Values.allBits(type));
            reckoner.copy(element, to + (int) k * width, width);
            return to;
        }

        private static int indexCost(int type, int indexType) {
            return Values.elements(type) * (Values.width(type) + Values.width(indexType));
        }

        /** Within an if the NAME keeps what it had, unless all ifs around are so. */
        private void rebind(int name, int word, int where) {
            int to = where;
            if (ifs > 0) {
                int size = Values.allBits(names.typeAt(name));
                spend(size, word);
                to = reckoner.choose(condition, where, names.whereAt(name), size);
            }
            names.move(name, to);
        }

        private void beginIf(int first) {
            settle(values.top - 1, Values.I32);
            demand(Values.BOOL, first);
            int test = reckoner.wire(values.whereAt(values.top - 1));
            values.drop(1);
            push(test);
            push(condition);
            push(names.amount);
            condition = gates.and(condition, test);
            ifs++;
        }

        private void turnIf() {
            names.release(frame(1));
            condition = gates.and(frame(2), gates.not(frame(3)));
        }

        private void endIf() {
            names.release(pop());
            condition = pop();
            pop();
            ifs--;
        }

        private void beginLoop(int word, int behind) {
            if (names.find(words.nameAt(word)) != NONE) {
                words.fail(WRONG_NAME, word);
            }
            long first = words.numberAt(word + 2);
            long last = words.numberAt(word + 4);
            if (last - first > MOST_ROUNDS) {
                words.fail(WRONG_TYPE, word);
            }
            if (first >= last) {
                at = behind;
                return;
            }
            push(names.amount);
            beginRound(word, first);
        }

        private void nextRound(int word, int start) {
            long next = names.numberAt(frame(1)) + 1;
            names.release(frame(1));
            if (next >= words.numberAt(word + 4)) {
                pop();
                return;
            }
            beginRound(word, next);
            at = start + 1;
        }

        private void beginRound(int word, long number) {
            spend(1, word);
            names.add(words.nameAt(word), Values.LOOSE, 0, number);
        }

        private void lookAtOutput(int word) {
            if (ifs > 0 || known < code.fns) {
                words.fail(WRONG_TYPE, word);
            }
        }

        private void output(int word) {
            int slot = values.top - 1;
            settle(slot, Values.I32);
            int type = values.typeAt(slot);
            if (!outputs.hasRoom(Math.max(1, Values.elements(type)), Values.width(type))) {
                words.fail(TOO_MUCH, word);
            }
            addElements(outputs, type, values.whereAt(slot));
            values.drop(1);
        }

        private void lookAtCall(int word, int amount) {
            int fn = findFn(words.nameAt(word), known);
            if (!code.hasFn(fn)) {
                words.fail(WRONG_NAME, word);
                return;
            }
            if (code.parameterAmounts[fn] != amount) {
                words.fail(WRONG_TYPE, word);
            }
            if (calls < MOST_FRAMES) {
                called[calls] = fn;
                calls++;
            }
        }

        /** The FN of the call whose Es are being done. */
        private int latestCalled() {
            return calls > 0 ? called[calls - 1] : 0;
        }

        private void payCall(int word, int depth) {
            if (callDepth + depth > DEEPEST_CALL) {
                words.fail(TOO_MUCH, word);
            }
            spend(1 + code.parameterAmounts[latestCalled()], word);
        }

        private void lookAtArgument(int first, int k) {
            int i = latestCalled() * Code.MOST_PARAMETERS + k;
            if (i >= 0 && i < code.parameterTypes.length) {
                demand(code.parameterTypes[i], first);
            }
        }

        private void enter(int depth) {
            int fn = latestCalled();
            int amount = code.parameterAmounts[fn];
            calls = Math.max(0, calls - 1);
            push(at);
            push(names.base);
            push(callDepth);
            push(known);
            names.base = names.amount;
            for (int k = 0; k < amount && k < Code.MOST_PARAMETERS; k++) {
                int i = fn * Code.MOST_PARAMETERS + k;
                int where = values.whereAt(values.top - amount + k);
                names.add(words.nameAt(code.parameterWords[i]), code.parameterTypes[i], where, 0);
            }
            values.drop(amount);
            callDepth += depth;
            known = fn;
            at = code.fnStarts[fn];
        }

        private void leave(int first) {
            if (code.hasFn(known)) {
                demand(code.results[known], first);
            }
            names.release(names.base);
            known = pop();
            callDepth = pop();
            names.base = pop();
            at = pop();
        }

        private void pushName(int word) {
            int name = names.find(words.nameAt(word));
            if (name == NONE) {
                words.fail(WRONG_NAME, word);
            }
            if (names.typeAt(name) == Values.LOOSE) {
                values.pushLoose(names.numberAt(name), word);
            } else {
                values.push(names.typeAt(name), names.whereAt(name));
            }
        }

        private void negate(int word) {
            int slot = values.top - 1;
            int type = values.typeAt(slot);
            if (type == Values.LOOSE) {
                long number = -values.numberAt(slot);
                values.drop(1);
                values.pushLoose(number, word);
                return;
            }
            if (!Values.isNumber(type)) {
                words.fail(WRONG_TYPE, word);
            }
            spend(Values.width(type), word);
            replace(1, type, reckoner.negate(values.whereAt(slot), Values.width(type), 1));
        }

        private void flip(int word) {
            int slot = values.top - 1;
            settle(slot, Values.I32);
            int type = values.typeAt(slot);
            if (Values.isRow(type)) {
                words.fail(WRONG_TYPE, word);
            }
            spend(Values.width(type), word);
            replace(1, type, reckoner.flip(values.whereAt(slot), Values.width(type)));
        }

        private void not(int word) {
            settle(values.top - 1, Values.I32);
            demand(Values.BOOL, word);
            spend(1, word);
            replace(1, Values.BOOL, reckoner.flip(values.whereAt(values.top - 1), 1));
        }

        private void sign(int word) {
            int sign = words.kindAt(word);
            if (sign == Words.LEFT || sign == Words.RIGHT) {
                shift(word, sign == Words.LEFT);
                return;
            }
            int left = values.top - 2;
            int right = values.top - 1;
            int type = values.typeAt(left) != Values.LOOSE ? values.typeAt(left)
                : values.typeAt(right) != Values.LOOSE ? values.typeAt(right) : Values.I32;
            settle(left, type);
            settle(right, type);
            if (values.typeAt(left) != values.typeAt(right) || !suits(sign, type)) {
                words.fail(WRONG_TYPE, word);
            }
            spend(price(sign, Values.width(type)), word);
            int where = reckoner.reckon(sign, values.whereAt(left), values.whereAt(right), type);
            replace(2, isTest(sign) ? Values.BOOL : type, where);
        }

        private static boolean suits(int sign, int type) {
            switch (sign) {
                case Words.BOTH:
                case Words.EITHER:
                    return type == Values.BOOL;
                case '&':
                case '|':
                case '^':
                case Words.EQUAL:
                case Words.UNEQUAL:
                    return !Values.isRow(type);
                default:
                    return Values.isNumber(type);
            }
        }

        private static int price(int sign, int width) {
            return sign == '*' ? width * width
                : sign == '/' || sign == '%' ? 2 * width * width : width;
        }

        private static boolean isTest(int sign) {
            return sign == '<' || sign == '>' || sign == Words.LESS_EQUAL
                || sign == Words.MORE_EQUAL || sign == Words.EQUAL || sign == Words.UNEQUAL;
        }

        private void shift(int word, boolean left) {
            int one = values.top - 2;
            int other = values.top - 1;
            settle(one, Values.I32);
            int type = values.typeAt(one);
            int byType = values.typeAt(other);
            boolean loose = byType == Values.LOOSE;
            boolean good = loose ? values.numberAt(other) >= 0
                : Values.isNumber(byType) && !Values.isSigned(byType);
            if (!good || !Values.isNumber(type)) {
                words.fail(WRONG_TYPE, word);
            }
            int width = Values.width(type);
            spend(loose ? width : width * Values.width(byType), word);
            int x = values.whereAt(one);
            int filling = !left && Values.isSigned(type) ? reckoner.wire(x + width - 1) : 0;
            int where = loose
                ? reckoner.shiftBy(x, width, values.numberAt(other), left, filling)
                : reckoner.shift(x, width, values.whereAt(other), Values.width(byType), left,
                    filling);
            replace(2, type, where);
        }

        private void cast(int bracket, int wanted) {
            int slot = values.top - 1;
            settle(slot, Values.I32);
            int type = values.typeAt(slot);
            if (Values.isRow(type)) {
                words.fail(WRONG_TYPE, bracket);
            }
            spend(Values.width(wanted) + Values.width(type), bracket);
            replace(1, wanted, reckoner.cast(values.whereAt(slot), type, wanted));
        }

        private void row(int bracket, int amount) {
            int first = values.top - amount;
            int type = Values.I32;
            for (int i = values.top - 1; i >= first; i--) {
                type = values.typeAt(i) == Values.LOOSE ? type : values.typeAt(i);
            }
            boolean good = amount <= MOST_ELEMENTS && !Values.isRow(type);
            for (int i = first; i < values.top; i++) {
                settle(i, type);
                good = good && values.typeAt(i) == type;
            }
            if (!good) {
                words.fail(WRONG_TYPE, bracket);
            }
            int width = Values.width(type);
            spend(amount * width, bracket);
            int to = reckoner.take(amount * width);
            for (int i = 0; i < amount; i++) {
                reckoner.copy(values.whereAt(first + i), to + i * width, width);
            }
            replace(amount, type + Values.ROW * amount, to);
        }

        private void needRow(int bracket) {
            if (!Values.isRow(values.typeAt(values.top - 1))) {
                words.fail(WRONG_TYPE, bracket);
            }
        }

        private void lookAtIndex(int first) {
            int slot = values.top - 1;
            int type = values.typeAt(slot);
            if (type == Values.LOOSE && !Values.holds(Values.I32, values.numberAt(slot))) {
                words.fail(TOO_LARGE, values.wordAt(slot));
            }
            if (type != Values.LOOSE && !Values.isNumber(type)) {
                words.fail(WRONG_TYPE, first);
            }
        }

        private void index(int bracket) {
            int slot = values.top - 1;
            int row = values.whereAt(slot - 1);
            int type = values.typeAt(slot - 1);
            int width = Values.width(type);
            int where;
            if (values.typeAt(slot) == Values.LOOSE) {
                long k = values.numberAt(slot);
                spend(width, bracket);
                boolean isThere = k >= 0 && k < Values.elements(type);
                where = isThere ? row + (int) k * width : reckoner.constant(0, width);
            } else {
                spend(indexCost(type, values.typeAt(slot)), bracket);
                where = reckoner.elementAt(row, type, values.whereAt(slot), values.typeAt(slot));
            }
            replace(2, Values.elementType(type), where);
        }
    }
}
