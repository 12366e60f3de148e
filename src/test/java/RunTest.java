/** Promises 7 to 12: count, bits, give, coins, run and value. */
public final class RunTest {
    private static final String TEXT = "alice a u8; bob b i4[2]; alice c bool; bob d u64; output a + 1; output b; "
        + "output c; output d;";

    public static void main(String[] args) {
        countsAndBits();
        whatIsGiven();
        wrongElements();
        allAreZeroAnew();
        valuesOfTheLatestRun();
        coinsTellNothing();
        behindFaults();
        manyRuns();
        Kit.finish();
    }

    private static void countsAndBits() {
        SecretHouse house = Kit.compiled(TEXT);
        int[] counts = {2, 3, 5, 8 + 4 + 4 + 1 + 64};
        for (int what = 0; what < 4; what++) {
            Kit.due("count(" + what + ")", house.count(what), counts[what]);
        }
        for (int what = 4; what < 9; what++) {
            Kit.due("count(" + what + ") of a program", house.count(what), -1);
            Kit.due("count(" + -what + ")", house.count(-what), -1);
        }
        Kit.due("count of the least", house.count(Integer.MIN_VALUE), -1);
        Kit.due("count of the most", house.count(Integer.MAX_VALUE), -1);
        int[][] widths = {{8, 1}, {4, 4, 64}, {8, 4, 4, 1, 64}};
        for (int what = 0; what < 3; what++) {
            for (int k = 0; k < widths[what].length; k++) {
                Kit.due("bits(" + what + ", " + k + ")", house.bits(what, k), widths[what][k]);
            }
            Kit.due("bits beyond", Kit.bitsThrows(house, what, widths[what].length), true);
            Kit.due("bits below", Kit.bitsThrows(house, what, -1), true);
            Kit.due("bits at the least", Kit.bitsThrows(house, what, Integer.MIN_VALUE), true);
            Kit.due("bits at the most", Kit.bitsThrows(house, what, Integer.MAX_VALUE), true);
        }
        Kit.due("bits of 3", Kit.bitsThrows(house, 3, 0), true);
        Kit.due("bits of -1", Kit.bitsThrows(house, -1, 0), true);
    }

    private static void whatIsGiven() {
        SecretHouse house = Kit.compiled(TEXT);
        house.give(0, 0, -1, 0x12FE);
        house.give(1, 0, 5, 0x1F);
        house.give(1, 1, 0, -9);
        house.give(0, 1, 77, 2);
        house.give(1, 2, 0x80000001, 0x80000002);
        Kit.tells(TEXT, house, 255, 15, 7, 0, 0x8000000180000002L);
        house.give(0, 1, 0, 3);
        house.give(1, 2, 0, -1);
        Kit.tells(TEXT, house, 255, 15, 7, 1, 0xFFFFFFFFL);
        house.give(1, 2, -1, 0);
        Kit.tells(TEXT, house, 255, 15, 7, 1, 0xFFFFFFFF00000000L);
    }

    private static void wrongElements() {
        SecretHouse house = Kit.compiled(TEXT);
        Kit.due("give 2 of 0", Kit.giveThrows(house, 0, 2), true);
        Kit.due("give 3 of 1", Kit.giveThrows(house, 1, 3), true);
        Kit.due("give -1", Kit.giveThrows(house, 0, -1), true);
        Kit.due("give of party 2", Kit.giveThrows(house, 2, 0), true);
        Kit.due("give of party -1", Kit.giveThrows(house, -1, 0), true);
        Kit.due("give of party 3", Kit.giveThrows(house, 3, 0), true);
        Kit.due("give at the most", Kit.giveThrows(house, 1, Integer.MAX_VALUE), true);
        Kit.tells(TEXT, house, 1, 0, 0, 0, 0);
        Kit.due("value beyond", Kit.valueThrows(house, 5), true);
        Kit.due("value below", Kit.valueThrows(house, -1), true);
        Kit.due("value at the least", Kit.valueThrows(house, Integer.MIN_VALUE), true);
        Kit.due("value at the most", Kit.valueThrows(house, Integer.MAX_VALUE), true);
    }

    private static void allAreZeroAnew() {
        SecretHouse house = Kit.compiled(TEXT);
        Kit.tells(TEXT, house, 1, 0, 0, 0, 0);
        house.give(0, 0, 0, 9);
        house.give(1, 2, 0, 9);
        Kit.feed(house, TEXT);
        Kit.due("compile anew", house.compile(), 0);
        Kit.due("no value yet", Kit.valueThrows(house, 0), true);
        Kit.tells(TEXT, house, 1, 0, 0, 0, 0);
        house.give(0, 0, 0, 1);
        Kit.feed(house, "1 3\n2 1 1\n1 2\n\n1 1 0 2 EQW\n");
        Kit.due("circuit", house.circuit(), 0);
        Kit.due("no value yet", Kit.valueThrows(house, 0), true);
        Kit.tells("a circuit's inputs", house, 0);
        house.give(0, 0, 0, 1);
        Kit.tells("a circuit's inputs", house, 2);
    }

    private static void valuesOfTheLatestRun() {
        SecretHouse house = Kit.compiled("alice a u8; output a * a;");
        Kit.due("no value ahead of a run", Kit.valueThrows(house, 0), true);
        house.give(0, 0, 0, 3);
        Kit.due("run", house.run(), true);
        Kit.due("value", house.value(0), 9);
        house.give(0, 0, 0, 4);
        Kit.due("value of the latest run", house.value(0), 9);
        Kit.feed(house, "output 1;");
        Kit.due("value still", house.value(0), 9);
        Kit.due("run again", house.run(), true);
        Kit.due("value anew", house.value(0), 16);
        Kit.due("compile", house.compile(), 0);
        Kit.due("none was run since", Kit.valueThrows(house, 0), true);
    }

    private static void coinsTellNothing() {
        SecretHouse house = Kit.compiled("alice a i16; bob b i16; output a / b; output a % b; output a < b;");
        int[] parties = {0, 1, 2, -1, Integer.MIN_VALUE, Integer.MAX_VALUE};
        int[] some = {0, 1, -1, Integer.MIN_VALUE, Integer.MAX_VALUE, 12345};
        for (int party : parties) {
            for (int a : some) {
                for (int b : some) {
                    house.coins(party, a, b);
                }
                house.give(0, 0, 0, a);
                house.give(1, 0, 0, -345);
                int x = (short) a;
                Kit.tells("coins", house, x / -345 & 65535, x % -345 & 65535, x < -345 ? 1 : 0);
            }
        }
    }

    private static void behindFaults() {
        SecretHouse house = Kit.compiled(TEXT);
        Kit.due("run", house.run(), true);
        Kit.feed(house, "output x;");
        Kit.due("compile with a fault", house.compile(), 3);
        Kit.due("place", house.place(), 7);
        for (int what = -1; what < 8; what++) {
            Kit.due("count behind a fault", house.count(what), -1);
            Kit.due("bits behind a fault", Kit.bitsThrows(house, what, 0), true);
            Kit.due("give behind a fault", Kit.giveThrows(house, what, 0), true);
        }
        Kit.due("run behind a fault", house.run(), false);
        Kit.due("value behind a fault", Kit.valueThrows(house, 0), true);
        Kit.feed(house, "output 4;");
        Kit.due("compile", house.compile(), 0);
        Kit.due("place", house.place(), -1);
        Kit.tells("behind a fault", house, 4);
        Kit.feed(house, "1 3\n2 1 1\n1 1\n\n");
        Kit.due("circuit with a fault", house.circuit(), 2);
        Kit.due("place", house.place(), 15);
        Kit.due("count behind a fault", house.count(4), -1);
        Kit.due("run behind a fault", house.run(), false);
        Kit.due("value behind a fault", Kit.valueThrows(house, 0), true);
    }

    private static void manyRuns() {
        SecretHouse house = Kit.compiled("alice a u6; bob b u6; output a * b + a / b;");
        for (int n = 0; n < 400; n++) {
            int a = n * 7 & 63;
            int b = n * 29 & 63;
            house.give(0, 0, 0, a);
            house.give(1, 0, 0, b);
            Kit.tells("run " + n, house, a * b + (b == 0 ? 63 : a / b) & 63);
        }
    }
}
