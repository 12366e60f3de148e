import java.util.Random;

/** Promises 5, 6, 7 and 8: circuits, their FAULTS, and what is counted of them. */
public final class CircuitTest {
    private static final String GOOD = "2 6\n2 1 2\n1 2\n\n2 1 0 1 4 XOR\n1 1 4 5 INV\n";

    public static void main(String[] args) {
        gates();
        headerFaults();
        numberFaults();
        gateFaults();
        ends();
        cutAnywhere();
        limits();
        pieces();
        outputsMayBeInputs();
        madeCircuits();
        Kit.finish();
    }

    private static void gates() {
        String text = "4 7\n2 1 2\n1 4\n\n2 1 0 1 3 XOR\n2 1 0 2 4 AND\n1 1 2 5 INV\n1 1 3 6 EQW\n";
        SecretHouse house = Kit.circuit(text);
        Kit.due("AND gates", house.count(4), 1);
        Kit.due("gates", house.count(5), 4);
        Kit.due("wires", house.count(6), 7);
        Kit.due("elements of 0", house.count(0), 1);
        Kit.due("elements of 1", house.count(1), 1);
        Kit.due("outputs", house.count(2), 1);
        Kit.due("bits of outputs", house.count(3), 4);
        Kit.due("count(7)", house.count(7), -1);
        Kit.due("count(-1)", house.count(-1), -1);
        Kit.due("bits of 0", house.bits(0, 0), 1);
        Kit.due("bits of 1", house.bits(1, 0), 2);
        Kit.due("bits of outputs", house.bits(2, 0), 4);
        for (int n = 0; n < 8; n++) {
            house.give(0, 0, 0, n & 1);
            house.give(1, 0, 0, n >> 1);
            int a = n & 1;
            int b = n >> 1 & 1;
            int c = n >> 2;
            Kit.tells(text, house, (a ^ b) + 2 * (a & c) + 4 * (1 - c) + 8 * (a ^ b));
        }
        Kit.circuit("1 3\n2 1 1\n1 1\n\n2 1 0 0 2 AND\n");
        Kit.circuit("1 3\n2 1 1\n1 1\n\n2 1 1 1 2 XOR\n");
    }

    private static void headerFaults() {
        Kit.circuitFault("@");
        Kit.circuitFault("@ 1 3\n");
        Kit.circuitFault("@0 3\n2 1 1\n");
        Kit.circuitFault("@2001 3\n");
        Kit.circuitFault("@2001x");
        Kit.circuitFault("1@x");
        Kit.circuitFault("1@\n");
        Kit.circuitFault("1 @ 3\n");
        Kit.circuitFault("1 @0\n");
        Kit.circuitFault("1 @4001\n");
        Kit.circuitFault("1 3@ \n");
        Kit.circuitFault("1 3@\r\n");
        Kit.circuitFault("1 3\n@\n");
        Kit.circuitFault("1 3\n@1 1 1\n");
        Kit.circuitFault("1 3\n@22 1 1\n");
        Kit.circuitFault("1 3\n2@\n");
        Kit.circuitFault("1 3\n2 @0 1\n");
        Kit.circuitFault("1 1009\n2 @501 1\n");
        Kit.circuitFault("1 1009\n2 500 @501\n");
        Kit.circuitFault("1 3\n2 1 @0\n");
        Kit.circuitFault("1 3\n2 2 @2\n");
        Kit.circuitFault("1 3\n2 400 @1\n");
        Kit.circuitFault("1 3\n2 400 @\n");
        Kit.circuitFault("1 3\n2 1@\n");
        Kit.circuitFault("1 3\n2 1 1@ \n");
        Kit.circuitFault("1 3\n2 1 1\n@2 1\n");
        Kit.circuitFault("1 3\n2 1 1\n1 @0\n");
        Kit.circuitFault("1 3\n2 1 1\n1 @4\n");
        Kit.circuitFault("1 600\n2 1 1\n1 @501\n");
        Kit.circuitFault("1 3\n2 1 1\n1 1@ \n");
        Kit.circuitFault("1 3\n2 1 1\n1 1\n@2 1 0 1 2 AND\n");
        Kit.circuitFault("1 3\n2 1 1\n1 1\n@ \n");
        Kit.circuitFault("1 3\n2 1 1\n1 1\n\n@\n2 1 0 1 2 AND\n");
    }

    private static void numberFaults() {
        Kit.circuitFault("0@1 3\n");
        Kit.circuitFault("0@0 3\n");
        Kit.circuitFault("@123456789 3\n");
        Kit.circuitFault("123456789@0 3\n");
        Kit.circuitFault("123456789@01 3\n");
        Kit.circuitFault("@-1 3\n");
        Kit.circuitFault("@+1 3\n");
        Kit.circuitFault("1 0@3\n");
        Kit.circuitFault("1 3\n2 0@1 1\n");
        Kit.circuitFault("1 3\n2 1 1\n1 1\n\n2 1 0@0 1 2 AND\n");
        Kit.circuitFault("1 3\n2 1 1\n1 1\n\n2 1 0 @999999999 2 AND\n");
        Kit.circuitFault("1 3\n2 1 1\n1 1\n\n2 1 0 999999999@9 2 AND\n");
        Kit.circuitFault("@a");
        Kit.circuitFault("@\u00ff");
    }

    private static void gateFaults() {
        String head = "2 4\n2 1 1\n1 1\n\n";
        Kit.circuitFault(head + "@3 1 0 1 2 AND\n");
        Kit.circuitFault(head + "@0 1 0 1 2 AND\n");
        Kit.circuitFault(head + "2 @2 0 1 2 AND\n");
        Kit.circuitFault(head + "2 @0 0 1 2 AND\n");
        Kit.circuitFault(head + "2 1 @2 1 3 AND\n");
        Kit.circuitFault(head + "2 1 @4 1 3 AND\n");
        Kit.circuitFault(head + "2 1 @4x");
        Kit.circuitFault(head + "2 1 0 @3 3 AND\n");
        Kit.circuitFault(head + "2 1 0 1 @1 AND\n");
        Kit.circuitFault(head + "2 1 0 1 @0 AND\n");
        Kit.circuitFault(head + "2 1 0 1 @4 AND\n");
        Kit.circuitFault(head + "2 1 0 1 2 AND\n2 1 0 1 @2 AND\n");
        Kit.circuitFault(head + "2 1 0 1 2 @INV\n");
        Kit.circuitFault(head + "2 1 0 1 2 @and\n");
        Kit.circuitFault(head + "2 1 0 1 2 A@XD\n");
        Kit.circuitFault(head + "2 1 0 1 2 AN@\n");
        Kit.circuitFault(head + "2 1 0 1 2 X@AR\n");
        Kit.circuitFault(head + "2 1 0 1 2 XO@S\n");
        Kit.circuitFault(head + "2 1 0 1 2 AND@ \n");
        Kit.circuitFault(head + "2 1 0 1 2 AND@D\n");
        Kit.circuitFault(head + "2 1 0 1 2@\n");
        Kit.circuitFault(head + "2 1 0 1 @AND\n");
        Kit.circuitFault(head + "2 1 0 1 2 @ AND\n");
        Kit.circuitFault(head + "1 1 0 2 @XOR\n");
        Kit.circuitFault(head + "1 1 0 2 @AND\n");
        Kit.circuitFault(head + "1 1 0 2 @3 AND\n");
        Kit.circuitFault(head + "1 1 0 2 IN@X\n");
        Kit.circuitFault(head + "1 1 0 2 E@E\n");
        Kit.circuitFault(head + "1 1 0 2 EQ@\n");
        Kit.circuitFault(head + "1 1 0 @1 INV\n");
        Kit.circuitFault(head + "1 1 @3 2 INV\n");
    }

    private static void ends() {
        Kit.circuit("1 3\n2 1 1\n1 1\n\n2 1 0 1 2 AND\n");
        Kit.circuitFault("1 3\n2 1 1\n1 1\n\n2 1 0 1 2 AND@");
        Kit.circuitFault("1 3\n2 1 1\n1 1\n\n2 1 0 1 2 AND\n@\n");
        Kit.circuitFault("1 3\n2 1 1\n1 1\n\n2 1 0 1 2 AND\n@2");
        Kit.circuitFault("2 3\n2 1 1\n1 1\n\n2 1 0 1 2 AND\n@");
        Kit.circuitFault("1 4\n2 1 1\n1 1\n\n2 1 0 1 2 AND\n@");
        Kit.circuitFault("1 4\n2 1 1\n1 2\n\n2 1 0 1 3 AND\n@");
        Kit.circuitFault("1 4\n2 1 1\n1 1\n\n2 1 0 1 2 AND\n@x");
        Kit.circuit("1 4\n2 1 1\n1 1\n\n2 1 0 1 3 AND\n");
    }

    /** Cut at any byte, a good text can't go on at its end, but for the whole of it. */
    private static void cutAnywhere() {
        for (int n = 0; n < GOOD.length(); n++) {
            Kit.circuitFault(GOOD.substring(0, n) + "@");
        }
        Kit.circuit(GOOD);
        Kit.circuit("2 5\n2 1 2\n1 2\n\n2 1 0 1 3 XOR\n1 1 3 4 INV\n");
    }

    private static void limits() {
        SecretHouse house = new SecretHouse();
        StringBuilder chain = new StringBuilder("240 4000\n2 1 1\n1 1\n\n");
        for (int n = 0; n < 240; n++) {
            chain.append("1 1 ").append(n == 0 ? 0 : n + 1).append(' ').append(n == 239 ? 3999 : n + 2).append(" INV\n");
        }
        Kit.feed(house, chain.toString());
        Kit.due("240 gates of 4000 wires", house.circuit(), 0);
        Kit.due("wires", house.count(6), 4000);
        Kit.due("gates", house.count(5), 240);
        house.give(0, 0, 0, 1);
        Kit.tells("a chain of INV", house, 1);
        Kit.circuit("1 1001\n2 500 500\n1 500\n\n1 1 0 1000 INV\n");
        Kit.circuitFault("2000 1000\n2 500 500\n1 500\n\n1 1 0 @999 INV\n");
    }

    private static void pieces() {
        int[] sizes = {1, 63, 64, 65, 128, 129, 500};
        for (int a : sizes) {
            for (int c : sizes) {
                String text = "1 1001\n2 " + a + " 500\n1 " + c + "\n\n1 1 0 1000 EQW\n";
                if (a + 500 < 1000) {
                    text = "1 " + (a + 501) + "\n2 " + a + " 500\n1 " + c + "\n\n1 1 0 " + (a + 500) + " EQW\n";
                }
                SecretHouse house = Kit.circuit(text);
                Kit.due("pieces of a", house.count(0), (a + 63) / 64);
                Kit.due("pieces of b", house.count(1), 8);
                Kit.due("pieces of c", house.count(2), (c + 63) / 64);
                Kit.due("bits of c", house.count(3), c);
                for (int k = 0; k < (a + 63) / 64; k++) {
                    Kit.due("bits of a piece", house.bits(0, k), Math.min(64, a - 64 * k));
                }
                for (int k = 0; k < (c + 63) / 64; k++) {
                    Kit.due("bits of a piece", house.bits(2, k), Math.min(64, c - 64 * k));
                }
                Kit.due("a piece beyond", Kit.bitsThrows(house, 2, (c + 63) / 64), true);
                Kit.due("a piece beyond", Kit.giveThrows(house, 0, (a + 63) / 64), true);
            }
        }
    }

    private static void outputsMayBeInputs() {
        String text = "1 5\n2 2 2\n1 5\n\n2 1 0 3 4 AND\n";
        SecretHouse house = Kit.circuit(text);
        house.give(0, 0, 0, 1);
        house.give(1, 0, 0, 2);
        Kit.tells(text, house, 1 + 8 + 16);
    }

    private static void madeCircuits() {
        for (int seed = 0; seed < 300; seed++) {
            Random dice = new Random(seed);
            int a = 1 + dice.nextInt(100);
            int b = 1 + dice.nextInt(100);
            int gates = 1 + dice.nextInt(150);
            int wires = a + b + gates;
            int c = 1 + dice.nextInt(wires);
            int[][] lines = new int[gates][];
            StringBuilder text = new StringBuilder();
            text.append(gates).append(' ').append(wires).append("\n2 ").append(a).append(' ').append(b)
                .append("\n1 ").append(c).append("\n\n");
            int ands = 0;
            for (int n = 0; n < gates; n++) {
                int kind = dice.nextInt(4);
                int x = dice.nextInt(a + b + n);
                int y = dice.nextInt(a + b + n);
                lines[n] = new int[] {kind, x, y};
                ands += kind == 1 ? 1 : 0;
                text.append(kind < 2 ? "2 1 " + x + " " + y : "1 1 " + x).append(' ').append(a + b + n).append(' ')
                    .append(kind == 0 ? "XOR" : kind == 1 ? "AND" : kind == 2 ? "INV" : "EQW").append('\n');
            }
            if (text.length() > 4000) {
                continue;
            }
            SecretHouse house = Kit.circuit(text.toString());
            Kit.due("AND gates", house.count(4), ands);
            for (int round = 0; round < 3; round++) {
                runMade(house, dice, lines, a, b, c);
            }
        }
    }

    private static void runMade(SecretHouse house, Random dice, int[][] lines, int a, int b, int c) {
        boolean[] wires = new boolean[a + b + lines.length];
        long[] pieces = new long[4];
        for (int i = 0; i < a + b; i++) {
            wires[i] = dice.nextBoolean();
            int at = i < a ? i : i - a;
            int piece = (i < a ? 0 : 2) + at / 64;
            pieces[piece] |= wires[i] ? 1L << at % 64 : 0;
        }
        for (int k = 0; k < 2; k++) {
            if (k < house.count(0)) {
                Kit.give(house, 0, k, pieces[k]);
            }
            if (k < house.count(1)) {
                Kit.give(house, 1, k, pieces[2 + k]);
            }
        }
        for (int n = 0; n < lines.length; n++) {
            boolean x = wires[lines[n][1]];
            boolean y = wires[lines[n][2]];
            wires[a + b + n] = lines[n][0] == 0 ? x ^ y : lines[n][0] == 1 ? x & y : lines[n][0] == 2 ? !x : x;
        }
        Kit.due("run", house.run(), true);
        for (int k = 0; k < house.count(2); k++) {
            long want = 0;
            for (int i = 0; i < house.bits(2, k); i++) {
                want |= wires[wires.length - c + 64 * k + i] ? 1L << i : 0;
            }
            Kit.due("piece " + k, house.value(k), want);
        }
    }
}
