import java.nio.charset.StandardCharsets;
import java.util.NoSuchElementException;

/** What the tests share: feeding texts, and telling what is not as due. */
final class Kit {
    private static int wrong = 0;
    private static int asked = 0;

    private Kit() {
    }

    static void due(String what, long got, long want) {
        asked++;
        if (got != want) {
            wrong++;
            if (wrong <= 40) {
                String told = what.length() > 400 ? what.substring(0, 400) + " .." : what;
                System.out.println(told + " answered " + got + ", due is " + want);
            }
        }
    }

    static void due(String what, boolean got, boolean want) {
        due(what, got ? 1 : 0, want ? 1 : 0);
    }

    /** Ends the test: with exit code 1 if anything was not as due. */
    static void finish() {
        System.out.println(asked + " answers, " + wrong + " not as due");
        if (wrong != 0 || asked == 0) {
            System.exit(1);
        }
    }

    static int numberAt(byte[] bytes, int at) {
        int number = 0;
        for (int i = 0; i < 4; i++) {
            number = number << 8 | (at + i < bytes.length ? bytes[at + i] & 255 : 0);
        }
        return number;
    }

    /** Puts the text on an empty tape. */
    static void feed(SecretHouse house, String text) {
        byte[] bytes = text.getBytes(StandardCharsets.ISO_8859_1);
        for (int at = 0; at < bytes.length; at += 20) {
            due("feed", house.feed(numberAt(bytes, at), numberAt(bytes, at + 4),
                numberAt(bytes, at + 8), numberAt(bytes, at + 12), numberAt(bytes, at + 16)), true);
        }
        due("end", house.end(bytes.length), true);
    }

    static SecretHouse compiled(String text) {
        SecretHouse house = new SecretHouse();
        feed(house, text);
        due("compile of " + text, house.compile(), 0);
        due("place of " + text, house.place(), -1);
        return house;
    }

    static SecretHouse circuit(String text) {
        SecretHouse house = new SecretHouse();
        feed(house, text);
        due("circuit of " + text, house.circuit(), 0);
        due("place of " + text, house.place(), -1);
        return house;
    }

    /** The text has a mark '@' where the fault is to be; the mark itself is taken out. */
    static void fault(int kind, String marked) {
        int place = marked.indexOf('@');
        String text = marked.substring(0, place) + marked.substring(place + 1);
        SecretHouse house = new SecretHouse();
        feed(house, text);
        due("kind of " + marked, house.compile(), kind);
        due("place of " + marked, house.place(), place);
        due("count behind the fault of " + marked, house.count(0), -1);
        due("run behind the fault of " + marked, house.run(), false);
    }

    /** What compile() and place() answer for the text. */
    static void answers(String text, int kind, int place) {
        SecretHouse house = new SecretHouse();
        feed(house, text);
        due("kind of " + text, house.compile(), kind);
        due("place of " + text, house.place(), place);
    }

    /** Statements that cost so much: a loop of n empty rounds costs 1 + n. */
    static String spending(int cost) {
        StringBuilder text = new StringBuilder();
        int left = cost;
        while (left > 0) {
            int rounds = Math.min(256, left - 1);
            text.append("for zz in 0 .. ").append(rounds).append(" { } ");
            left -= 1 + rounds;
        }
        return text.toString();
    }

    static void circuitFault(String marked) {
        int place = marked.indexOf('@');
        String text = marked.substring(0, place) + marked.substring(place + 1);
        SecretHouse house = new SecretHouse();
        feed(house, text);
        due("kind of " + marked, house.circuit(), 2);
        due("place of " + marked, house.place(), place);
        due("count behind the fault of " + marked, house.count(5), -1);
        due("run behind the fault of " + marked, house.run(), false);
    }

    static void give(SecretHouse house, int party, int k, long number) {
        house.give(party, k, (int) (number >>> 32), (int) number);
    }

    /** The program's outputs when nothing, or what was given before, is given. */
    static void tells(String text, SecretHouse house, long... wants) {
        due("run of " + text, house.run(), true);
        due("outputs of " + text, house.count(2), wants.length);
        for (int k = 0; k < Math.min(wants.length, house.count(2)); k++) {
            due("value(" + k + ") of " + text, house.value(k), wants[k]);
        }
    }

    static void tells(String text, long... wants) {
        tells(text, compiled(text), wants);
    }

    /** What the text tells when these numbers are given: alice's ELEMENTS, then bob's. */
    static void tellsWith(String text, SecretHouse house, long[] given, long... wants) {
        int alices = house.count(0);
        for (int k = 0; k < given.length; k++) {
            give(house, k < alices ? 0 : 1, k < alices ? k : k - alices, given[k]);
        }
        tells(text + " with " + java.util.Arrays.toString(given), house, wants);
    }

    static boolean valueThrows(SecretHouse house, int k) {
        try {
            house.value(k);
            return false;
        } catch (NoSuchElementException none) {
            return true;
        }
    }

    static boolean bitsThrows(SecretHouse house, int what, int k) {
        try {
            house.bits(what, k);
            return false;
        } catch (NoSuchElementException none) {
            return true;
        }
    }

    static boolean giveThrows(SecretHouse house, int party, int k) {
        try {
            house.give(party, k, 0, 0);
            return false;
        } catch (NoSuchElementException none) {
            return true;
        }
    }

    static String times(String part, int n) {
        return part.repeat(Math.max(0, n));
    }
}
