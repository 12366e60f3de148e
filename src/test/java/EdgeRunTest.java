/** The boundary cases of Part IV and of promises 7 to 12: count, bits, give, coins, run and value. */
public final class EdgeRunTest {
    private static final int[] FAR = {-1, -2, Integer.MIN_VALUE, Integer.MAX_VALUE, 256, 1 << 16, 1 << 31};
    private static final String PROGRAM = "bob y i5[3]; alice a u8; bob z bool; alice r u64[2]; output a; output r; output y; "
        + "output z;";
    private static final String CIRCUIT = "1 201\n2 65 135\n1 129\n\n2 1 64 65 200 AND\n";

    public static void main(String[] args) {
        countsOfNothing();
        countsOfPrograms();
        countsOfCircuits();
        bitsAtTheirBounds();
        elementsInTheirOrder();
        giveTakesTheLowestBits();
        giveAtItsBounds();
        aRefusedGiveChangesNothing();
        piecesOfCircuits();
        zeroUntilGiven();
        whatIsGivenStays();
        coinsChangeNothing();
        runsWithoutAProgram();
        valuesAtTheirBounds();
        valuesOfTheLatestRun();
        bitsAboveAreZero();
        emptyPrograms();
        Kit.finish();
    }

    private static void counts(String what, SecretHouse house, int... wants) {
        for (int k = 0; k < wants.length; k++) {
            Kit.due("count(" + k + ") of " + what, house.count(k), wants[k]);
        }
        int[] others = {-1, -2, 7, 8, 256, Integer.MIN_VALUE, Integer.MAX_VALUE};
        for (int other : others) {
            Kit.due("count(" + other + ") of " + what, house.count(other), SecretHouse.NONE);
        }
    }

    private static void countsOfNothing() {
        SecretHouse house = new SecretHouse();
        counts("nothing", house, -1, -1, -1, -1, -1, -1, -1);
        Kit.feed(house, PROGRAM);
        counts("what is not compiled yet", house, -1, -1, -1, -1, -1, -1, -1);
        Kit.due("compile", house.compile(), 0);
        counts("a program", house, 3, 4, 7, 8 + 128 + 15 + 1, -1, -1, -1);
        Kit.feed(house, "?");
        counts("a program still", house, 3, 4, 7, 152, -1, -1, -1);
        Kit.due("compile", house.compile(), 1);
        counts("a FAULT", house, -1, -1, -1, -1, -1, -1, -1);
        Kit.feed(house, CIRCUIT);
        Kit.due("circuit", house.circuit(), 0);
        counts("a circuit", house, 2, 3, 3, 129, 1, 1, 201);
        Kit.due("an empty circuit", house.circuit(), 2);
        counts("a FAULT", house, -1, -1, -1, -1, -1, -1, -1);
    }

    private static void countsOfPrograms() {
        counts("an empty program", Kit.compiled(""), 0, 0, 0, 0, -1, -1, -1);
        counts("alice alone", Kit.compiled("alice a u8;"), 1, 0, 0, 0, -1, -1, -1);
        counts("bob alone", Kit.compiled("bob a u8[32];"), 0, 32, 0, 0, -1, -1, -1);
        counts("an output alone", Kit.compiled("output true;"), 0, 0, 1, 1, -1, -1, -1);
        counts("outputs in loops", Kit.compiled("for k in 0 .. 3 { output [true, false]; }"), 0, 0, 6, 6, -1, -1, -1);
        counts("1000 bits", Kit.compiled("alice a u50[20]; output a;"), 20, 0, 20, 1000, -1, -1, -1);
        counts("256 ELEMENTS", Kit.compiled("for k in 0 .. 256 { output true; }"), 0, 0, 256, 256, -1, -1, -1);
    }

    private static void countsOfCircuits() {
        String head = " 8\n2 1 1\n1 1\n\n";
        String and = "2 1 0 1 7 AND\n";
        counts("one AND", Kit.circuit("1" + head + and), 1, 1, 1, 1, 1, 1, 8);
        counts("no AND", Kit.circuit("1" + head + "2 1 0 1 7 XOR\n"), 1, 1, 1, 1, 0, 1, 8);
        counts("ANDs that do nothing", Kit.circuit("3" + head + and + "2 1 0 0 2 AND\n2 1 7 7 3 AND\n"), 1, 1, 1, 1, 3, 3, 8);
        counts("all sorts", Kit.circuit("4" + head + and + "1 1 0 2 INV\n1 1 2 3 EQW\n2 1 0 0 4 XOR\n"), 1, 1, 1, 1, 1, 4, 8);
    }

    private static void bitsAtTheirBounds() {
        SecretHouse program = Kit.compiled(PROGRAM);
        int[][] widths = {{8, 64, 64}, {5, 5, 5, 1}, {8, 64, 64, 5, 5, 5, 1}};
        SecretHouse circuit = Kit.circuit(CIRCUIT);
        int[][] pieces = {{64, 1}, {64, 64, 7}, {64, 64, 1}};
        for (int what = 0; what < 3; what++) {
            bits(program, what, widths[what]);
            bits(circuit, what, pieces[what]);
        }
        int[] others = {-1, 3, 4, 5, 6, 7, Integer.MIN_VALUE, Integer.MAX_VALUE};
        for (int what : others) {
            for (int k = -1; k < 4; k++) {
                Kit.due("bits(" + what + ", " + k + ") throws", Kit.bitsThrows(program, what, k), true);
                Kit.due("bits(" + what + ", " + k + ") throws", Kit.bitsThrows(circuit, what, k), true);
            }
        }
    }

    private static void bits(SecretHouse house, int what, int[] widths) {
        for (int k = 0; k < widths.length; k++) {
            Kit.due("bits(" + what + ", " + k + ")", house.bits(what, k), widths[k]);
        }
        Kit.due("bits beyond " + what, Kit.bitsThrows(house, what, widths.length), true);
        for (int k : FAR) {
            Kit.due("bits(" + what + ", " + k + ") throws", Kit.bitsThrows(house, what, k), true);
        }
    }

    /** A party's ELEMENTS come in the order of its inputs, whatever stands between them. */
    private static void elementsInTheirOrder() {
        SecretHouse house = Kit.compiled(PROGRAM);
        Kit.tellsWith(PROGRAM, house, new long[] {1, 2, 3, 4, 5, 6, 1}, 1, 2, 3, 4, 5, 6, 1);
        String text = "alice a u8; bob b u8; alice c u8; bob d u8; output d; output c; output b; output a;";
        Kit.tellsWith(text, Kit.compiled(text), new long[] {1, 2, 3, 4}, 4, 2, 3, 1);
    }

    private static void giveTakesTheLowestBits() {
        for (int bits = 1; bits <= 64; bits++) {
            String text = "alice a u" + bits + "; output a;";
            SecretHouse house = Kit.compiled(text);
            long mask = bits == 64 ? -1L : (1L << bits) - 1;
            long[] some = {0, -1L, 1L << (bits - 1), mask, mask + 1, 0x123456789ABCDEF0L, 0xFFFFFFFFL, 0xFFFFFFFF00000000L,
                0x80000000L, 0x8000000000000000L};
            for (long x : some) {
                Kit.tellsWith(text, house, new long[] {x}, x & mask);
            }
        }
        String text = "alice a bool; output a;";
        SecretHouse house = Kit.compiled(text);
        long[] some = {0, 1, 2, 3, -1, -2, 1L << 32};
        for (long x : some) {
            Kit.tellsWith(text, house, new long[] {x}, x & 1);
        }
        text = "alice a i5; output i64(a); output a;";
        house = Kit.compiled(text);
        Kit.tellsWith(text, house, new long[] {0x2F}, 15, 15);
        Kit.tellsWith(text, house, new long[] {0x30}, -16, 16);
    }

    private static void giveAtItsBounds() {
        SecretHouse[] houses = {Kit.compiled(PROGRAM), Kit.circuit(CIRCUIT)};
        int[][] amounts = {{3, 4}, {2, 3}};
        for (int n = 0; n < 2; n++) {
            for (int party = 0; party < 2; party++) {
                int amount = amounts[n][party];
                Kit.due("give 0", Kit.giveThrows(houses[n], party, 0), false);
                Kit.due("give the last", Kit.giveThrows(houses[n], party, amount - 1), false);
                Kit.due("give one beyond", Kit.giveThrows(houses[n], party, amount), true);
                for (int k : FAR) {
                    Kit.due("give " + k, Kit.giveThrows(houses[n], party, k), true);
                }
            }
            int[] parties = {-1, 2, 3, Integer.MIN_VALUE, Integer.MAX_VALUE};
            for (int party : parties) {
                Kit.due("give of party " + party, Kit.giveThrows(houses[n], party, 0), true);
            }
        }
        Kit.due("give of no ELEMENT", Kit.giveThrows(Kit.compiled("bob b u8;"), 0, 0), true);
        Kit.due("give of no ELEMENT", Kit.giveThrows(Kit.compiled("alice b u8;"), 1, 0), true);
    }

    private static void aRefusedGiveChangesNothing() {
        String text = "alice a u8; bob b u8; output a; output b;";
        SecretHouse house = Kit.compiled(text);
        Kit.tellsWith(text, house, new long[] {3, 4}, 3, 4);
        int[][] wrong = {{0, 1}, {1, 1}, {0, -1}, {1, -1}, {2, 0}, {-1, 0}, {2, 1}};
        for (int[] one : wrong) {
            Kit.due("a wrong give throws", Kit.giveThrows(house, one[0], one[1]), true);
        }
        Kit.due("the value stays", house.value(1), 4);
        Kit.tells(text, house, 3, 4);
    }

    /** Pieces of 64, the first wire the lowest bit; inputs and outputs that are not multiples of it. */
    private static void piecesOfCircuits() {
        int[] sizes = {1, 2, 63, 64, 65, 127, 128, 129, 191, 192, 193, 499, 500};
        for (int a : sizes) {
            for (int b : new int[] {1, 64, 65, 500}) {
                int wires = a + b + 1;
                int c = Math.min(500, wires);
                String text = "1 " + wires + "\n2 " + a + " " + b + "\n1 " + c + "\n\n1 1 " + (a - 1) + " " + (wires - 1)
                    + " EQW\n";
                SecretHouse house = Kit.circuit(text);
                int alices = (a + 63) / 64;
                int bobs = (b + 63) / 64;
                counts(text, house, alices, bobs, (c + 63) / 64, c, 0, 1, wires);
                long[] given = new long[alices + bobs];
                for (int k = 0; k < given.length; k++) {
                    given[k] = 0x9E3779B97F4A7C15L * (k + 1);
                }
                long[] wants = new long[(c + 63) / 64];
                for (int i = 0; i < c; i++) {
                    int wire = wires - c + i;
                    int from = wire == wires - 1 ? a - 1 : wire;
                    long bit = from < a ? given[from / 64] >>> from % 64 & 1
                        : given[alices + (from - a) / 64] >>> (from - a) % 64 & 1;
                    wants[i / 64] |= bit << i % 64;
                }
                Kit.tellsWith(text, house, given, wants);
            }
        }
    }

    /** All are 0 until they are given, anew for each program or circuit. */
    private static void zeroUntilGiven() {
        String circuit = "1 4\n2 1 2\n1 4\n\n2 1 0 1 3 XOR\n";
        String program = "alice a u8; bob b u8[2]; output a; output b;";
        SecretHouse house = Kit.compiled(program);
        for (int round = 0; round < 3; round++) {
            Kit.tells(program, house, 0, 0, 0);
            Kit.tellsWith(program, house, new long[] {7, 8, 9}, 7, 8, 9);
            Kit.feed(house, circuit);
            Kit.due("circuit", house.circuit(), 0);
            Kit.tells(circuit, house, 0);
            Kit.tellsWith(circuit, house, new long[] {1, 2}, 1 + 4 + 8);
            Kit.feed(house, circuit);
            Kit.due("circuit", house.circuit(), 0);
            Kit.tells(circuit, house, 0);
            house.give(0, 0, 0, 1);
            Kit.feed(house, program);
            Kit.due("compile", house.compile(), 0);
        }
        Kit.tellsWith(program, house, new long[] {7, 8, 9}, 7, 8, 9);
        Kit.feed(house, "output x;");
        Kit.due("compile", house.compile(), 3);
        Kit.feed(house, program);
        Kit.due("compile", house.compile(), 0);
        Kit.tells(program, house, 0, 0, 0);
    }

    private static void whatIsGivenStays() {
        String text = "alice a u8; bob b u8; a = a + 1; output a; output b;";
        SecretHouse house = Kit.compiled(text);
        Kit.tellsWith(text, house, new long[] {255, 4}, 0, 4);
        Kit.tells(text, house, 0, 4);
        house.give(1, 0, 0, 5);
        Kit.tells(text, house, 0, 5);
        house.give(1, 0, 0, 6);
        house.give(1, 0, 0, 7);
        house.give(0, 0, 0, 1);
        Kit.tells(text, house, 2, 7);
    }

    /** What it tells is what it means, whatever coins were thrown; others' coins do nothing. */
    private static void coinsChangeNothing() {
        String text = "alice a u8; bob b u8; output a * b; output a < b; output a / b;";
        SecretHouse house = Kit.compiled(text);
        int[] some = {0, 1, -1, 2, Integer.MIN_VALUE, Integer.MAX_VALUE, 0x9E3779B9, 0x7F4A7C15};
        int[] parties = {0, 1, -1, 2, Integer.MIN_VALUE, Integer.MAX_VALUE};
        Kit.tellsWith(text, house, new long[] {200, 3}, 88, 0, 66);
        for (int party : parties) {
            for (int x : some) {
                for (int y : some) {
                    house.coins(party, x, y);
                    Kit.due("the value stays", house.value(0), 88);
                    Kit.tells(text, house, 88, 0, 66);
                    Kit.due("the place stays", house.place(), SecretHouse.NONE);
                }
            }
        }
        for (int x : some) {
            house.coins(0, x, x);
            house.coins(1, x, x);
            Kit.tells(text, house, 88, 0, 66);
        }
        SecretHouse early = new SecretHouse();
        early.coins(0, 5, 6);
        early.coins(1, 7, 8);
        Kit.feed(early, text);
        Kit.due("coins do not change the tape", early.compile(), 0);
        early.coins(0, 0, 0);
        Kit.due("no run by coins", Kit.valueThrows(early, 0), true);
        Kit.tellsWith(text, early, new long[] {200, 3}, 88, 0, 66);
    }

    private static void runsWithoutAProgram() {
        SecretHouse house = new SecretHouse();
        Kit.due("run of nothing", house.run(), false);
        Kit.feed(house, "output 5;");
        Kit.due("run of what is not compiled", house.run(), false);
        Kit.due("compile", house.compile(), 0);
        Kit.due("a refused run is none", Kit.valueThrows(house, 0), true);
        Kit.tells("output 5;", house, 5);
        Kit.feed(house, "output");
        Kit.due("run while a text is fed", house.run(), true);
        Kit.due("compile", house.compile(), 2);
        Kit.due("run behind a FAULT", house.run(), false);
        Kit.due("its value throws", Kit.valueThrows(house, 0), true);
        Kit.due("the place stays", house.place(), 6);
    }

    private static void valuesAtTheirBounds() {
        SecretHouse house = Kit.compiled(PROGRAM);
        for (int k = -1; k < 8; k++) {
            Kit.due("value(" + k + ") ahead of a run", Kit.valueThrows(house, k), true);
        }
        Kit.due("run", house.run(), true);
        for (int k = -1; k < 9; k++) {
            Kit.due("value(" + k + ")", Kit.valueThrows(house, k), k < 0 || k > 6);
        }
        for (int k : FAR) {
            Kit.due("value(" + k + ")", Kit.valueThrows(house, k), true);
        }
        SecretHouse circuit = Kit.circuit(CIRCUIT);
        Kit.due("value ahead of a run", Kit.valueThrows(circuit, 0), true);
        Kit.due("run", circuit.run(), true);
        for (int k = -1; k < 5; k++) {
            Kit.due("value(" + k + ") of a circuit", Kit.valueThrows(circuit, k), k < 0 || k > 2);
        }
    }

    private static void valuesOfTheLatestRun() {
        String text = "alice a u8; output a + 1;";
        String circuit = "1 3\n2 1 1\n1 1\n\n1 1 0 2 INV\n";
        SecretHouse house = Kit.compiled(text);
        house.give(0, 0, 0, 4);
        Kit.due("none was run yet", Kit.valueThrows(house, 0), true);
        Kit.tells(text, house, 5);
        house.give(0, 0, 0, 6);
        Kit.due("given, and not run", house.value(0), 5);
        Kit.due("and asked again", house.value(0), 5);
        Kit.tells(text, house, 7);
        Kit.feed(house, text);
        Kit.due("fed, and not compiled", house.value(0), 7);
        Kit.due("compile of the same", house.compile(), 0);
        Kit.due("none was run since", Kit.valueThrows(house, 0), true);
        Kit.tells(text, house, 1);
        Kit.feed(house, circuit);
        Kit.due("circuit", house.circuit(), 0);
        Kit.due("none was run since", Kit.valueThrows(house, 0), true);
        Kit.tells(circuit, house, 1);
        Kit.feed(house, text);
        Kit.due("compile", house.compile(), 0);
        Kit.due("none was run since", Kit.valueThrows(house, 0), true);
        Kit.tells(text, house, 1);
        Kit.due("a FAULT", house.circuit(), 2);
        Kit.due("none was run since", Kit.valueThrows(house, 0), true);
    }

    /** An i below 0 is told by its bits alone. */
    private static void bitsAboveAreZero() {
        Kit.tells("output i2(-1); output i8(-1); output -1; output i63(-1); output i64(-1); output ~u1(0); output u64(-1); "
            + "output i33(-2); output true;", 3, 255, 0xFFFFFFFFL, Long.MAX_VALUE, -1L, 1, -1L, (1L << 33) - 2, 1);
        String circuit = "1 66\n2 64 1\n1 65\n\n1 1 0 65 INV\n";
        SecretHouse house = Kit.circuit(circuit);
        Kit.tellsWith(circuit, house, new long[] {-1L, 1}, -1L, 0);
        Kit.tellsWith(circuit, house, new long[] {0, 0}, 0, 1);
    }

    private static void emptyPrograms() {
        String[] texts = {"", " ", "# nothing", "alice a u8;", "fn f() u8 { return 1; }", "for k in 0 .. 0 { output 1; }"};
        for (String text : texts) {
            SecretHouse house = Kit.compiled(text);
            Kit.due("outputs", house.count(2), 0);
            Kit.due("bits of outputs", house.count(3), 0);
            Kit.due("run", house.run(), true);
            Kit.due("value throws", Kit.valueThrows(house, 0), true);
            Kit.due("bits throws", Kit.bitsThrows(house, 2, 0), true);
        }
    }
}
