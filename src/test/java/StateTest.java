import java.lang.reflect.Array;
import java.lang.reflect.Field;
import java.lang.reflect.Modifier;
import java.util.ArrayList;
import java.util.HashSet;
import java.util.IdentityHashMap;
import java.util.List;
import java.util.Map;
import java.util.Set;

/**
 * Calls that change nothing, held against all numbers that an object holds, whatever their names;
 * and coins, which change what is held and never what is told.
 */
public final class StateTest {
    private static final int[] FAR = {Integer.MIN_VALUE, -2, -1, 2, 3, 4, 256, Integer.MAX_VALUE};
    private static final String TEXT = "alice a u8[3]; bob b u8; output a[b] * b; output a;";

    public static void main(String[] args) throws Exception {
        List<SecretHouse> houses = houses();
        for (int n = 0; n < houses.size(); n++) {
            questions("house " + n, houses.get(n));
            tape("house " + n, houses.get(n));
            elements("house " + n, houses.get(n));
            othersCoins("house " + n, houses.get(n));
        }
        nothingToRun();
        textsBeyondTheLast();
        coinsAreThrown();
        coinsTellNothing();
        Kit.finish();
    }

    /** New; with a text on the tape; with a program, run and not; behind a FAULT; with a circuit. */
    private static List<SecretHouse> houses() {
        List<SecretHouse> houses = new ArrayList<>();
        houses.add(new SecretHouse());
        SecretHouse fed = new SecretHouse();
        Kit.feed(fed, TEXT);
        houses.add(fed);
        houses.add(Kit.compiled(TEXT));
        SecretHouse ran = Kit.compiled(TEXT);
        Kit.give(ran, 0, 1, 7);
        Kit.give(ran, 1, 0, 1);
        Kit.tells(TEXT, ran, 7, 0, 7, 0);
        houses.add(ran);
        SecretHouse faulty = new SecretHouse();
        Kit.feed(faulty, "output a;");
        Kit.due("a FAULT", faulty.compile(), 3);
        houses.add(faulty);
        houses.add(Kit.circuit("1 3\n2 1 1\n1 1\n\n2 1 0 1 2 AND\n"));
        return houses;
    }

    private static void same(String what, SecretHouse house, List<Long> before) throws Exception {
        Kit.due(what + " changes nothing", numbersOf(house).equals(before), true);
    }

    private static void questions(String name, SecretHouse house) throws Exception {
        List<Long> before = numbersOf(house);
        house.place();
        for (int what = -2; what < 9; what++) {
            house.count(what);
            for (int k = -1; k < 6; k++) {
                Kit.bitsThrows(house, what, k);
                Kit.valueThrows(house, k);
            }
        }
        same("asking " + name, house, before);
    }

    private static void tape(String name, SecretHouse house) throws Exception {
        int length = 0;
        while (length < 4000 && house.feed(1, 2, 3, 4, 5)) {
            length += 20;
        }
        List<Long> before = numbersOf(house);
        Kit.due("a feed too many", house.feed(6, 7, 8, 9, 10), false);
        for (int n : new int[] {Integer.MIN_VALUE, -1, 4001, Integer.MAX_VALUE}) {
            Kit.due("end(" + n + ")", house.end(n), false);
        }
        same("feed and end that are false, of " + name, house, before);
        Kit.due("end(0)", house.end(0), true);
        before = numbersOf(house);
        Kit.due("end(1) of none", house.end(1), false);
        same("end that is false, of " + name, house, before);
    }

    private static void elements(String name, SecretHouse house) throws Exception {
        List<Long> before = numbersOf(house);
        for (int k : FAR) {
            if (k != 2) {
                Kit.due("give to 0, " + k + " throws", Kit.giveThrows(house, 0, k), true);
            }
            Kit.due("give to 1, " + k + " throws", Kit.giveThrows(house, 1, k), true);
            Kit.due("give to " + k + " throws", Kit.giveThrows(house, k, 0), true);
        }
        same("give that throws, of " + name, house, before);
    }

    private static void othersCoins(String name, SecretHouse house) throws Exception {
        List<Long> before = numbersOf(house);
        for (int party : FAR) {
            house.coins(party, 11, 12);
        }
        same("coins of others, of " + name, house, before);
    }

    private static void nothingToRun() throws Exception {
        SecretHouse house = new SecretHouse();
        List<Long> before = numbersOf(house);
        Kit.due("run of nothing", house.run(), false);
        same("run of nothing", house, before);
        Kit.feed(house, "output");
        Kit.due("a FAULT", house.compile(), 2);
        before = numbersOf(house);
        Kit.due("run behind a FAULT", house.run(), false);
        same("run behind a FAULT", house, before);
    }

    private static void textsBeyondTheLast() throws Exception {
        SecretHouse house = new SecretHouse();
        for (int turn = 0; turn < 24; turn++) {
            Kit.feed(house, TEXT);
            Kit.due("turn " + turn, house.compile(), 0);
        }
        Kit.due("run", house.run(), true);
        Kit.feed(house, "output 5;");
        List<Long> before = numbersOf(house);
        for (int n = 0; n < 3; n++) {
            Kit.due("a 25th compile()", house.compile(), -1);
            Kit.due("a 25th circuit()", house.circuit(), -1);
        }
        same("a text beyond the 24th", house, before);
        Kit.due("the tape stands", house.end(9), true);
        Kit.due("and has no more", house.end(10), false);
    }

    private static void coinsAreThrown() throws Exception {
        SecretHouse house = Kit.compiled(TEXT);
        Set<List<Long>> seen = new HashSet<>();
        int thrown = 0;
        for (int party = 0; party < 2; party++) {
            for (int a = 3; a < 6; a++) {
                for (int b = 7; b < 10; b++) {
                    house.coins(party, a, b);
                    List<Long> once = numbersOf(house);
                    Kit.due("coins that were not thrown yet", seen.add(once), true);
                    house.coins(party, a, b);
                    same("the same coins once more", house, once);
                    thrown++;
                }
            }
        }
        Kit.due("different coins", seen.size(), thrown);
    }

    /** What goes over is another with other coins of either; what is told is the same. */
    private static void coinsTellNothing() throws Exception {
        Set<List<Long>> seen = new HashSet<>();
        int ran = 0;
        for (int a = 0; a < 3; a++) {
            for (int b = 0; b < 3; b++) {
                SecretHouse house = Kit.compiled(TEXT);
                house.coins(0, a, 5);
                house.coins(1, 5, b);
                Kit.give(house, 0, 2, 50);
                Kit.give(house, 1, 0, 2);
                Kit.tells(TEXT, house, 100, 0, 0, 50);
                seen.add(numbersOf(house));
                ran++;
            }
        }
        Kit.due("runs that differ inside", seen.size(), ran);
    }

    private static List<Long> numbersOf(SecretHouse house) throws Exception {
        List<Long> numbers = new ArrayList<>();
        collect(house, numbers, new IdentityHashMap<>());
        return numbers;
    }

    private static void collect(Object object, List<Long> numbers, Map<Object, Boolean> seen)
        throws Exception {
        if (object == null || seen.put(object, true) != null) {
            return;
        }
        if (object.getClass().isArray()) {
            for (int i = 0; i < Array.getLength(object); i++) {
                collectOne(Array.get(object, i), numbers, seen);
            }
            return;
        }
        for (Field field : object.getClass().getDeclaredFields()) {
            if (!Modifier.isStatic(field.getModifiers())) {
                field.setAccessible(true);
                collectOne(field.get(object), numbers, seen);
            }
        }
    }

    private static void collectOne(Object part, List<Long> numbers, Map<Object, Boolean> seen)
        throws Exception {
        if (part instanceof Number) {
            numbers.add(((Number) part).longValue());
        } else if (part instanceof Boolean) {
            numbers.add((Boolean) part ? 1L : 0L);
        } else {
            collect(part, numbers, seen);
        }
    }
}
