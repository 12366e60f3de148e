/** The boundary cases of Part III: each number's bounds, each byte that can't go on, wires that have nothing. */
public final class EdgeCircuitTest {
    private static final String WHOLE = "5 10\n2 2 3\n1 5\n\n2 1 0 1 5 XOR\n2 1 5 4 6 AND\n1 1 6 7 INV\n1 1 2 8 EQW\n"
        + "2 1 0 4 9 AND\n";

    public static void main(String[] args) {
        gatesAndWires();
        inputs();
        outputs();
        fixedNumbers();
        digits();
        blanksAndLines();
        eachWrongByte();
        cutAnywhere();
        gatesWires();
        words();
        howManyGates();
        nothingMore();
        outputsThatHaveNothing();
        wiresThatAreNotUsed();
        fullCircuits();
        numbersAheadOfWhatIsBehind();
        Kit.finish();
    }

    /** The first line. */
    private static String header(String gates, String wires) {
        return gates + " " + wires + "\n";
    }

    private static void gatesAndWires() {
        String[] tooSmallOrLarge = {"0", "2001", "2002", "9999", "999999999"};
        for (String n : tooSmallOrLarge) {
            Kit.circuitFault("@" + header(n, "3"));
            Kit.circuitFault("@" + n);
            Kit.circuitFault("@" + n + "x");
        }
        String[] good = {"1", "2", "1999", "2000"};
        for (String n : good) {
            Kit.circuitFault(header(n, "3") + "@");
            Kit.circuitFault(header(n, "3") + "2 1 1\n1 1\n\n@");
        }
        String[] wrongWires = {"0", "4001", "4002", "40000", "999999999"};
        for (String n : wrongWires) {
            Kit.circuitFault("1 @" + n + "\n");
            Kit.circuitFault("1 @" + n);
            Kit.circuitFault("2000 @" + n + "x");
        }
        String[] goodWires = {"2", "3", "3999", "4000"};
        for (String n : goodWires) {
            Kit.circuitFault(header("1", n) + "@");
            Kit.circuitFault(header("1", n) + "2 1 1\n@");
        }
        Kit.circuitFault("1 1\n2 1 @1\n");
        Kit.circuitFault("1 2\n2 1 1\n1 1\n\n1 1 0 @2 INV\n");
        Kit.circuitFault("1 2\n2 1 1\n1 1\n\n1 1 0 @1 INV\n");
        SecretHouse house = Kit.circuit("1 4000\n2 1 1\n1 1\n\n1 1 0 3999 INV\n");
        Kit.due("wires", house.count(6), 4000);
        Kit.tells("the last of 4000 wires", house, 1);
        Kit.due("wires", Kit.circuit("1 3999\n2 1 1\n1 1\n\n1 1 0 3998 INV\n").count(6), 3999);
        Kit.due("wires", Kit.circuit("1 3\n2 1 1\n1 1\n\n1 1 0 2 INV\n").count(6), 3);
    }

    private static void inputs() {
        String[] wrong = {"0", "501", "502", "1000", "999999999"};
        for (String n : wrong) {
            Kit.circuitFault("1 4000\n2 @" + n + " 1\n");
            Kit.circuitFault("1 4000\n2 @" + n);
            Kit.circuitFault("1 4000\n2 1 @" + n + "\n");
            Kit.circuitFault("1 4000\n2 500 @" + n + "x");
        }
        int[] good = {1, 2, 499, 500};
        for (int a : good) {
            for (int b : good) {
                for (int more = -1; more <= 2; more++) {
                    int wires = a + b + more;
                    String head = "1 " + wires + "\n2 " + a + " ";
                    if (more < 0) {
                        Kit.circuitFault(head + "@" + b + "\n");
                        Kit.circuitFault(head + "@" + b);
                    } else if (more == 0) {
                        Kit.circuitFault(head + b + "\n1 1\n\n1 1 0 @" + wires + " INV\n");
                    } else {
                        String text = head + b + "\n1 1\n\n1 1 0 " + (wires - 1) + " INV\n";
                        SecretHouse house = Kit.circuit(text);
                        Kit.due("pieces of a", house.count(0), (a + 63) / 64);
                        Kit.due("pieces of b", house.count(1), (b + 63) / 64);
                        Kit.due("bits of the last of a", house.bits(0, (a - 1) / 64), a - 64 * ((a - 1) / 64));
                    }
                }
            }
        }
        Kit.circuitFault("1 3\n2 500 @1\n");
        Kit.circuitFault("1 3\n2 3 @1\n");
        Kit.circuitFault("1 3\n2 4 @1\n");
        Kit.circuitFault("1 3\n2 500 @x");
        Kit.circuitFault("1 3\n2 500@\n");
    }

    private static void outputs() {
        String[] wrong = {"0", "501", "502", "999999999"};
        for (String n : wrong) {
            Kit.circuitFault("1 4000\n2 1 1\n1 @" + n + "\n");
            Kit.circuitFault("1 4000\n2 1 1\n1 @" + n);
        }
        int[] good = {1, 2, 499, 500};
        for (int c : good) {
            Kit.circuitFault("1 4000\n2 500 500\n1 " + c + "\n@");
            SecretHouse house = Kit.circuit("1 1001\n2 500 500\n1 " + c + "\n\n1 1 0 1000 INV\n");
            Kit.due("bits of outputs", house.count(3), c);
            Kit.due("pieces of outputs", house.count(2), (c + 63) / 64);
        }
        for (int wires = 3; wires <= 6; wires++) {
            String head = "1 " + wires + "\n2 1 " + (wires - 2) + "\n1 ";
            Kit.circuitFault(head + "@" + (wires + 1) + "\n");
            Kit.circuitFault(head + "@" + (wires + 2) + "\n");
            Kit.circuit(head + wires + "\n\n1 1 0 " + (wires - 1) + " INV\n");
            Kit.circuitFault(head + (wires - 1) + "\n@");
        }
        Kit.circuit("1 3\n2 1 1\n1 3\n\n1 1 0 2 INV\n");
        Kit.circuitFault("1 3\n2 1 1\n1 @4\n\n1 1 0 2 INV\n");
        Kit.circuit("1 500\n2 250 249\n1 500\n\n1 1 0 499 INV\n");
        Kit.circuitFault("1 501\n2 250 250\n1 @501\n\n1 1 0 500 INV\n");
    }

    private static void fixedNumbers() {
        String[] notTwo = {"1", "3", "0", "22", "20", "12"};
        for (String n : notTwo) {
            Kit.circuitFault("1 3\n@" + n + " 1 1\n");
        }
        String[] notOne = {"0", "2", "10", "11", "3"};
        for (String n : notOne) {
            Kit.circuitFault("1 3\n2 1 1\n@" + n + " 1\n");
            Kit.circuitFault("1 3\n2 1 1\n1 1\n\n2 @" + n + " 0 1 2 XOR\n");
            Kit.circuitFault("1 3\n2 1 1\n1 1\n\n1 @" + n + " 0 2 INV\n");
        }
        String[] notOneOrTwo = {"0", "3", "4", "10", "21", "12"};
        for (String n : notOneOrTwo) {
            Kit.circuitFault("1 3\n2 1 1\n1 1\n\n@" + n + " 1 0 1 2 XOR\n");
        }
    }

    /** At most 9 digits, and no 0 ahead of others, in each place where a number stands. */
    private static void digits() {
        String[] heads = {"", "1 ", "1 3\n", "1 3\n2 ", "1 3\n2 1 ", "1 3\n2 1 1\n", "1 3\n2 1 1\n1 ", "1 3\n2 1 1\n1 1\n\n",
            "1 3\n2 1 1\n1 1\n\n2 ", "1 3\n2 1 1\n1 1\n\n2 1 ", "1 3\n2 1 1\n1 1\n\n2 1 0 ", "1 3\n2 1 1\n1 1\n\n2 1 0 1 ",
            "1 3\n2 1 1\n1 1\n\n1 1 ", "1 3\n2 1 1\n1 1\n\n1 1 0 "};
        for (String head : heads) {
            Kit.circuitFault(head + "0@0");
            Kit.circuitFault(head + "0@1");
            Kit.circuitFault(head + "0@2 ");
            Kit.circuitFault(head + "0@0000000001");
            Kit.circuitFault(head + "@99999999");
            Kit.circuitFault(head + "@999999999");
            Kit.circuitFault(head + "@123456789 ");
            Kit.circuitFault(head + "123456789@0");
            Kit.circuitFault(head + "999999999@9");
            Kit.circuitFault(head + "100000000@00");
            Kit.circuitFault(head + "@");
            Kit.circuitFault(head + "@ ");
            Kit.circuitFault(head + "@\n");
            Kit.circuitFault(head + "@-1");
            Kit.circuitFault(head + "@a");
            Kit.circuitFault(head + "@/");
            Kit.circuitFault(head + "@:");
        }
    }

    private static void blanksAndLines() {
        for (int at = 0; at < WHOLE.length(); at++) {
            char c = WHOLE.charAt(at);
            if (c != ' ' && c != '\n') {
                continue;
            }
            String ahead = WHOLE.substring(0, at);
            String behind = WHOLE.substring(at + 1);
            String other = c == ' ' ? "\n" : " ";
            Kit.circuitFault(ahead + "@" + other + behind);
            Kit.circuitFault(ahead + "@\t" + behind);
            Kit.circuitFault(ahead + "@\r" + behind);
            Kit.circuitFault(ahead + "@\r\n" + behind);
            boolean last = at == WHOLE.length() - 1;
            boolean emptyLine = c == '\n' && WHOLE.startsWith("\n\n", at);
            if (!emptyLine) {
                Kit.circuitFault(ahead + c + "@" + c + behind);
            }
            if (last) {
                Kit.circuitFault(ahead + c + "@ ");
            }
        }
        Kit.circuitFault("@ " + WHOLE);
        Kit.circuitFault("@\n" + WHOLE);
        Kit.circuitFault(WHOLE.replace("\n\n", "\n@"));
        Kit.circuitFault(WHOLE.replace("\n\n", "\n\n@\n"));
        Kit.circuit(WHOLE);
    }

    /** A byte that stands nowhere, in the place of each byte of a good text, is where it can't go on. */
    private static void eachWrongByte() {
        int[] bytes = {0, '$', 'Z', 'n', 127, 128, 255};
        for (int at = 0; at < WHOLE.length(); at++) {
            for (int c : bytes) {
                String text = WHOLE.substring(0, at) + (char) c + WHOLE.substring(at + 1);
                SecretHouse house = new SecretHouse();
                Kit.feed(house, text);
                Kit.due("kind of a wrong byte at " + at, house.circuit(), 2);
                Kit.due("place of a wrong byte at " + at, house.place(), at);
            }
        }
    }

    private static void cutAnywhere() {
        for (int n = 0; n < WHOLE.length(); n++) {
            String cut = WHOLE.substring(0, n);
            Kit.circuitFault(cut + "@");
        }
        SecretHouse house = Kit.circuit(WHOLE);
        Kit.due("AND gates", house.count(4), 2);
        Kit.due("gates", house.count(5), 5);
        Kit.due("wires", house.count(6), 10);
        Kit.due("its outputs are the wires 5 .. 9", house.count(3), 5);
        Kit.tellsWith(WHOLE, house, new long[] {1, 5}, 1 + 2 + 8 + 16);
        Kit.tellsWith(WHOLE, house, new long[] {0, 4}, 4);
        Kit.tellsWith(WHOLE, house, new long[] {3, 4}, 4 + 16);
    }

    /** x and y have something by then; z has nothing yet; none is beyond the wires. */
    private static void gatesWires() {
        String head = "3 7\n2 2 2\n1 1\n\n";
        String[][] gates = {{"2 1 ", " 0 5 XOR\n"}, {"2 1 0 ", " 5 XOR\n"}, {"2 1 ", " 0 5 AND\n"}, {"2 1 0 ", " 5 AND\n"},
            {"1 1 ", " 5 INV\n"}, {"1 1 ", " 5 EQW\n"}};
        for (String[] gate : gates) {
            for (int x = 0; x <= 9; x++) {
                if (x <= 3) {
                    Kit.circuit(head + gate[0] + x + gate[1] + "1 1 5 4 INV\n1 1 4 6 INV\n");
                } else {
                    Kit.circuitFault(head + gate[0] + "@" + x + gate[1] + "1 1 5 4 INV\n1 1 4 6 INV\n");
                }
            }
        }
        String[][] ends = {{"2 1 0 1 ", " XOR\n"}, {"2 1 0 1 ", " AND\n"}, {"1 1 0 ", " INV\n"}, {"1 1 0 ", " EQW\n"}};
        for (String[] gate : ends) {
            for (int z = 0; z <= 8; z++) {
                if (z == 4 || z == 5) {
                    Kit.circuit(head + gate[0] + z + gate[1] + "1 1 " + z + " " + (9 - z) + " INV\n1 1 " + (9 - z) + " 6 INV\n");
                } else if (z < 4 || z > 6) {
                    Kit.circuitFault(head + gate[0] + "@" + z + gate[1] + "1 1 0 5 INV\n1 1 0 6 INV\n");
                }
            }
            Kit.circuitFault(head + gate[0] + "5" + gate[1] + gate[0] + "@5" + gate[1] + "1 1 0 6 INV\n");
            Kit.circuitFault(head + gate[0] + "6" + gate[1] + "1 1 @5 5 INV\n1 1 0 4 INV\n");
            Kit.circuitFault(head + gate[0] + "6" + gate[1] + "1 1 0 @6 INV\n1 1 0 4 INV\n");
        }
        Kit.circuitFault(head + "1 1 @5 5 INV\n");
        Kit.circuitFault(head + "1 1 0 @0 INV\n");
        Kit.circuitFault(head + "2 1 0 0 4 XOR\n2 1 4 @5 5 AND\n");
        Kit.circuit(head + "2 1 0 0 4 XOR\n2 1 4 4 5 AND\n2 1 5 3 6 XOR\n");
    }

    private static void words() {
        String two = "1 3\n2 1 1\n1 1\n\n2 1 0 1 2 ";
        String one = "1 3\n2 1 1\n1 1\n\n1 1 0 2 ";
        Kit.circuit(two + "XOR\n");
        Kit.circuit(two + "AND\n");
        Kit.circuit(one + "INV\n");
        Kit.circuit(one + "EQW\n");
        String[] ofTwo = {"@INV", "@EQW", "@NAND", "@OR", "@EQ", "@xor", "@and", "X@", "XO@", "X@XOR", "XO@O", "X@NOR",
            "A@", "AN@", "AN@T", "AND@", "AND@S", "XOR@", "XOR@ ", "AND@\r", "@1", "@ ", "@\n", "A@XOR", "X@AND"};
        for (String word : ofTwo) {
            Kit.circuitFault(two + word);
        }
        String[] ofOne = {"@XOR", "@AND", "@NOT", "@inv", "@eqw", "I@", "IN@", "I@INV", "IN@W", "INV@", "INV@E", "E@", "EQ@", "EQ@",
            "EQ@V", "EQW@", "EQW@W", "E@NV", "I@QW", "@MAND", "@1"};
        for (String word : ofOne) {
            Kit.circuitFault(one + word);
        }
        Kit.circuitFault("1 3\n2 1 1\n1 1\n\n2 1 0 1 @XOR\n");
        Kit.circuitFault("1 3\n2 1 1\n1 1\n\n1 1 0 @INV\n");
        Kit.circuitFault("1 4\n2 1 1\n1 1\n\n1 1 0 2 @3 XOR\n");
    }

    private static void howManyGates() {
        String gate = "1 1 0 2 INV\n";
        String next = "1 1 0 3 INV\n";
        Kit.circuit("1 4\n2 1 1\n1 1\n\n" + next);
        Kit.circuit("2 4\n2 1 1\n1 1\n\n" + gate + next);
        Kit.circuitFault("1 4\n2 1 1\n1 1\n\n" + next + "@" + gate);
        Kit.circuitFault("2 4\n2 1 1\n1 1\n\n" + next + "@");
        Kit.circuitFault("3 4\n2 1 1\n1 1\n\n" + gate + next + "@");
        Kit.circuitFault("2000 4\n2 1 1\n1 1\n\n" + gate + next + "@");
        Kit.circuitFault("1 4\n2 1 1\n1 1\n\n@");
        Kit.circuitFault("1 4\n2 1 1\n1 1\n@");
    }

    private static void nothingMore() {
        String text = "1 3\n2 1 1\n1 1\n\n2 1 0 1 2 AND\n";
        for (int c = 0; c < 256; c++) {
            Kit.due("kind with a byte " + c + " more", kindOf(text + (char) c), 2);
            Kit.due("kind with a byte " + c + " ahead", kindOf((char) c + text), 2);
        }
        Kit.circuitFault(text + "@\n");
        Kit.circuitFault(text + "@ ");
        Kit.circuitFault(text + "@2 1 0 1 2 AND\n");
        Kit.circuitFault(text + "@" + text);
        Kit.circuitFault("1 4\n2 1 1\n1 1\n\n2 1 0 1 2 AND\n@\n");
    }

    private static int kindOf(String text) {
        SecretHouse house = new SecretHouse();
        Kit.feed(house, text);
        return house.circuit();
    }

    private static void outputsThatHaveNothing() {
        Kit.circuitFault("1 4\n2 1 1\n1 1\n\n1 1 0 2 INV\n@");
        Kit.circuitFault("1 4\n2 1 1\n1 2\n\n1 1 0 3 INV\n@");
        Kit.circuit("1 4\n2 1 1\n1 1\n\n1 1 0 3 INV\n");
        Kit.circuitFault("1 5\n2 1 1\n1 3\n\n1 1 0 4 INV\n@");
        Kit.circuitFault("2 5\n2 1 1\n1 3\n\n1 1 0 4 INV\n1 1 0 3 INV\n@");
        Kit.circuit("3 5\n2 1 1\n1 3\n\n1 1 0 4 INV\n1 1 0 3 INV\n1 1 0 2 INV\n");
        Kit.circuitFault("1 4000\n2 1 1\n1 500\n\n1 1 0 3999 INV\n@");
        Kit.circuitFault("1 4\n2 1 1\n1 1\n\n1 1 0 2 INV\n@x");
        Kit.circuitFault("1 4\n2 1 1\n1 1\n\n1 1 0 2 INV@");
    }

    private static void wiresThatAreNotUsed() {
        String text = "1 4000\n2 1 1\n1 1\n\n1 1 1 3999 EQW\n";
        SecretHouse house = Kit.circuit(text);
        Kit.tellsWith(text, house, new long[] {1, 0}, 0);
        Kit.tellsWith(text, house, new long[] {0, 1}, 1);
        text = "2 9\n2 2 2\n1 1\n\n1 1 3 6 EQW\n2 1 6 0 8 AND\n";
        house = Kit.circuit(text);
        Kit.tellsWith(text, house, new long[] {1, 2}, 1);
        Kit.tellsWith(text, house, new long[] {2, 2}, 0);
        Kit.tellsWith(text, house, new long[] {3, 1}, 0);
    }

    /** As many gates as 4000 bytes hold, and each input of 500 in its piece. */
    private static void fullCircuits() {
        int gates = 0;
        String lines = "";
        String text = "";
        String next = oneGateMore(lines, gates);
        while (next.length() <= 4000) {
            text = next;
            lines = text.substring(text.indexOf("\n\n") + 2);
            gates++;
            next = oneGateMore(lines, gates);
        }
        SecretHouse full = Kit.circuit(text);
        Kit.due("gates of a full tape", full.count(5), gates);
        Kit.due("AND gates of a full tape", full.count(4), (gates + 2) / 3);
        Kit.due("run", full.run(), true);
        String wide = "1 1001\n2 500 500\n1 500\n\n1 1 0 1000 EQW\n";
        SecretHouse house = Kit.circuit(wide);
        long[] given = new long[16];
        for (int k = 0; k < 16; k++) {
            given[k] = 0x0123456789ABCDEFL * (k + 1);
        }
        long[] wants = new long[8];
        for (int i = 0; i < 500; i++) {
            boolean bit = i == 499 ? (given[0] & 1) != 0 : (given[8 + (i + 1) / 64] >>> (i + 1) % 64 & 1) != 0;
            wants[i / 64] |= bit ? 1L << i % 64 : 0;
        }
        Kit.tellsWith(wide, house, given, wants);
    }

    private static String oneGateMore(String lines, int gates) {
        return (gates + 1) + " " + (gates + 3) + "\n2 1 1\n1 1\n\n" + lines + "2 1 " + gates % 9 + " 1 " + (gates + 2)
            + (gates % 3 == 0 ? " AND\n" : " XOR\n");
    }

    private static void numbersAheadOfWhatIsBehind() {
        Kit.circuitFault("@2001");
        Kit.circuitFault("@0x");
        Kit.circuitFault("1 @4001x");
        Kit.circuitFault("1 3\n2 @501x");
        Kit.circuitFault("1 3\n2 2 @2x");
        Kit.circuitFault("1 3\n2 1 1\n1 @4x");
        Kit.circuitFault("1 3\n2 1 1\n1 1\n\n@3x");
        Kit.circuitFault("1 3\n2 1 1\n1 1\n\n2 @2x");
        Kit.circuitFault("1 3\n2 1 1\n1 1\n\n2 1 @2x");
        Kit.circuitFault("1 3\n2 1 1\n1 1\n\n2 1 0 @3x");
        Kit.circuitFault("1 3\n2 1 1\n1 1\n\n2 1 0 1 @1x");
        Kit.circuitFault("1 3\n2 1 1\n1 1\n\n2 1 0 1 2@x");
    }
}
