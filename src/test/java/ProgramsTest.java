import java.util.List;
import java.util.Random;

/** Many made programs, good and spoilt: the class answers what the oracle answers. */
public final class ProgramsTest {
    private static final int[] KINDS = new int[7];

    public static void main(String[] args) {
        long from = args.length > 0 ? Long.parseLong(args[0]) : 1;
        long to = args.length > 1 ? Long.parseLong(args[1]) : 12000;
        for (long seed = from; seed < to; seed++) {
            Maker maker = new Maker(seed);
            String text = maker.make();
            if (text.length() <= 4000) {
                compare(seed, text);
            }
            String bad = maker.spoil(text);
            if (bad.length() <= 4000) {
                compare(seed, bad);
            }
        }
        for (int kind = 0; kind < 7; kind++) {
            System.out.println("kind " + kind + ": " + KINDS[kind]);
            Kit.due("programs of kind " + kind, KINDS[kind] > 0, true);
        }
        Kit.finish();
    }

    private static void compare(long seed, String text) {
        Oracle oracle = new Oracle(text);
        SecretHouse house = new SecretHouse();
        Kit.feed(house, text);
        KINDS[oracle.kind]++;
        int kind = house.compile();
        Kit.due("kind of program " + seed + "\n" + text, kind, oracle.kind);
        Kit.due("place of program " + seed + "\n" + text, house.place(), oracle.place);
        if (oracle.kind != 0 || kind != 0) {
            return;
        }
        for (int what = 0; what < 3; what++) {
            List<Integer> widths = oracle.widths.get(what);
            Kit.due("count(" + what + ") of " + seed, house.count(what), widths.size());
            for (int k = 0; k < widths.size(); k++) {
                Kit.due("bits of " + seed, house.bits(what, k), widths.get(k));
            }
        }
        Random dice = new Random(seed);
        for (int round = 0; round < 4; round++) {
            runBoth(seed, text, oracle, house, dice);
        }
    }

    private static void runBoth(long seed, String text, Oracle oracle, SecretHouse house, Random dice) {
        long[][] given = new long[2][256];
        for (int party = 0; party < 2; party++) {
            for (int k = 0; k < house.count(party); k++) {
                given[party][k] = number(dice);
                Kit.give(house, party, k, given[party][k]);
            }
            house.coins(dice.nextInt(4) - 1, dice.nextInt(), dice.nextInt());
        }
        oracle.perform(given);
        Kit.due("run of " + seed, house.run(), true);
        for (int k = 0; k < oracle.told.size(); k++) {
            Kit.due("value(" + k + ") of " + seed + "\n" + text, house.value(k), oracle.told.get(k));
        }
        Kit.due("value beyond", Kit.valueThrows(house, oracle.told.size()), true);
    }

    private static long number(Random dice) {
        switch (dice.nextInt(5)) {
            case 0:
                return dice.nextInt(5) - 2;
            case 1:
                return 1L << dice.nextInt(64);
            case 2:
                return -(1L << dice.nextInt(64));
            default:
                return dice.nextLong();
        }
    }
}
