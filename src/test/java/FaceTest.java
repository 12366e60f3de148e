import java.lang.reflect.Array;
import java.lang.reflect.Constructor;
import java.lang.reflect.Field;
import java.lang.reflect.Method;
import java.lang.reflect.Modifier;
import java.util.IdentityHashMap;
import java.util.Map;
import java.util.NoSuchElementException;
import java.util.Random;
import java.util.TreeSet;

/** The public face, what an object may hold, and that no call throws but what the document says. */
public final class FaceTest {
    public static void main(String[] args) throws Exception {
        face();
        nestedClasses();
        whatIsHeldStaysSmall();
        noiseThrowsNothing();
        Kit.due("NONE", SecretHouse.NONE, -1);
        Kit.finish();
    }

    private static void face() {
        TreeSet<String> got = new TreeSet<>();
        for (Method method : SecretHouse.class.getDeclaredMethods()) {
            if (!Modifier.isPrivate(method.getModifiers())) {
                got.add(method.toString());
            }
        }
        String none = " throws java.util.NoSuchElementException";
        TreeSet<String> want = new TreeSet<>();
        want.add("public boolean SecretHouse.feed(int,int,int,int,int)");
        want.add("public boolean SecretHouse.end(int)");
        want.add("public int SecretHouse.compile()");
        want.add("public int SecretHouse.circuit()");
        want.add("public int SecretHouse.place()");
        want.add("public int SecretHouse.count(int)");
        want.add("public int SecretHouse.bits(int,int)" + none);
        want.add("public void SecretHouse.give(int,int,int,int)" + none);
        want.add("public void SecretHouse.coins(int,int,int)");
        want.add("public boolean SecretHouse.run()");
        want.add("public long SecretHouse.value(int)" + none);
        Kit.due("methods " + got, got.equals(want), true);
        Kit.due("the class is public and final", SecretHouse.class.getModifiers(), Modifier.PUBLIC | Modifier.FINAL);
        for (Field field : SecretHouse.class.getDeclaredFields()) {
            boolean isNone = field.getName().equals("NONE");
            Kit.due("field " + field, Modifier.isPrivate(field.getModifiers()), !isNone);
            Kit.due("static and not final: " + field, Modifier.isStatic(field.getModifiers())
                && !Modifier.isFinal(field.getModifiers()), false);
        }
        Constructor<?>[] constructors = SecretHouse.class.getDeclaredConstructors();
        Kit.due("constructors", constructors.length, 1);
        Kit.due("its parameters", constructors[0].getParameterCount(), 0);
        Kit.due("it is public", Modifier.isPublic(constructors[0].getModifiers()), true);
    }

    private static void nestedClasses() {
        TreeSet<String> names = new TreeSet<>();
        for (Method method : SecretHouse.class.getDeclaredMethods()) {
            if (Modifier.isPublic(method.getModifiers())) {
                names.add(method.getName());
            }
        }
        for (Class<?> inner : SecretHouse.class.getDeclaredClasses()) {
            Kit.due(inner + " is private and static", inner.getModifiers() & (Modifier.PRIVATE | Modifier.STATIC),
                Modifier.PRIVATE | Modifier.STATIC);
            Kit.due("fields of " + inner, fieldsBesideConstants(inner) <= 20, true);
            for (Method method : inner.getDeclaredMethods()) {
                Kit.due("a public name: " + method, names.contains(method.getName()), false);
                Kit.due("parameters of " + method, method.getParameterCount() <= 7, true);
            }
            for (Field field : inner.getDeclaredFields()) {
                Kit.due("static and not final: " + field, Modifier.isStatic(field.getModifiers())
                    && !Modifier.isFinal(field.getModifiers()), false);
            }
        }
        Kit.due("classes", SecretHouse.class.getDeclaredClasses().length <= 12, true);
    }

    private static int fieldsBesideConstants(Class<?> type) {
        int amount = 0;
        for (Field field : type.getDeclaredFields()) {
            amount += Modifier.isStatic(field.getModifiers()) ? 0 : 1;
        }
        return amount;
    }

    /** The dearest programs there are, again and again: what is held does not grow. */
    private static void whatIsHeldStaysSmall() throws Exception {
        StringBuilder text = new StringBuilder("alice a i2; bob b i2; let c = a; for k in 0 .. 18 { c = c");
        for (int n = 0; n < 20; n++) {
            text.append(" / b");
        }
        text.append("; } output c;");
        SecretHouse house = new SecretHouse();
        long before = held(house);
        Kit.due("a new object holds " + before, before < 150000, true);
        for (int turn = 0; turn < 24; turn++) {
            Kit.feed(house, text.toString());
            Kit.due("a dear program", house.compile(), 0);
            Kit.due("its run", house.run(), true);
        }
        long after = held(house);
        Kit.due("a much used object holds " + after, after < 400000, true);
    }

    private static long held(Object root) throws Exception {
        Map<Object, Boolean> seen = new IdentityHashMap<>();
        return heldBy(root, seen);
    }

    private static long heldBy(Object object, Map<Object, Boolean> seen) throws Exception {
        if (object == null || seen.put(object, true) != null) {
            return 0;
        }
        if (object.getClass().isArray()) {
            return Array.getLength(object);
        }
        long sum = 0;
        for (Field field : object.getClass().getDeclaredFields()) {
            if (!Modifier.isStatic(field.getModifiers())) {
                field.setAccessible(true);
                sum += 1 + (field.getType().isPrimitive() ? 0 : heldBy(field.get(object), seen));
            }
        }
        return sum;
    }

    private static void noiseThrowsNothing() {
        String[] words = {"alice", "bob", "fn", "let", "if", "else", "for", "in", "output", "return", "true", "u8",
            "i4", "bool", "a", "b", "f", "1", "0", "..", "(", ")", "[", "]", "{", "}", ",", ";", "=", "+", "-", "*",
            "/", "<<", "==", "&&", "~", "!", "2 1 ", "\n", "0 1 2 AND\n", "1 3\n2 1 1\n1 1\n\n"};
        for (int seed = 0; seed < 400; seed++) {
            Random dice = new Random(seed);
            SecretHouse house = new SecretHouse();
            for (int n = 0; n < 300; n++) {
                try {
                    oneCall(house, dice, words);
                } catch (NoSuchElementException none) {
                    Kit.due("thrown where it may be", true, true);
                } catch (RuntimeException wrong) {
                    Kit.due("seed " + seed + " throws " + wrong, true, false);
                }
            }
        }
    }

    private static int number(Random dice) {
        return dice.nextInt(4) == 0 ? dice.nextInt() : dice.nextInt(7) - 2;
    }

    private static void oneCall(SecretHouse house, Random dice, String[] words) {
        switch (dice.nextInt(13)) {
            case 0:
                house.feed(dice.nextInt(), dice.nextInt(), dice.nextInt(), dice.nextInt(), dice.nextInt());
                break;
            case 1:
            case 2:
                StringBuilder text = new StringBuilder();
                for (int n = dice.nextInt(40); n > 0; n--) {
                    text.append(words[dice.nextInt(words.length)]).append(dice.nextInt(3) > 0 ? " " : "");
                }
                house.end(0);
                Kit.feed(house, text.toString());
                break;
            case 3:
                house.end(number(dice));
                break;
            case 4:
                house.compile();
                break;
            case 5:
                house.circuit();
                break;
            case 6:
                house.place();
                break;
            case 7:
                house.count(number(dice));
                break;
            case 8:
                house.bits(number(dice), number(dice));
                break;
            case 9:
                house.give(number(dice), number(dice), dice.nextInt(), dice.nextInt());
                break;
            case 10:
                house.coins(number(dice), dice.nextInt(), dice.nextInt());
                break;
            case 11:
                house.run();
                break;
            default:
                house.value(number(dice));
                break;
        }
    }
}
