import java.util.ArrayList;
import java.util.List;
import java.util.Random;

/** Makes programs: mostly as the document wants them, now and then with something wrong. */
final class Maker {
    private record Name(String name, String base, int n, boolean loop) {
    }

    private record Fn(String name, List<String> types, String result) {
    }

    private final Random dice;
    private final StringBuilder text = new StringBuilder();
    private List<Name> names = new ArrayList<>();
    private final List<Fn> fns = new ArrayList<>();
    private int next = 0;
    private int room;
    /** In a thousand, how often something is not as wanted. */
    private final int slips;
    private final int widest;

    Maker(long seed) {
        dice = new Random(seed);
        slips = dice.nextInt(3) == 0 ? 12 : 0;
        widest = dice.nextInt(4) == 0 ? 64 : dice.nextInt(3) == 0 ? 3 : 12;
        room = 2 + dice.nextInt(14);
    }

    String make() {
        int fnAmount = dice.nextInt(4);
        for (int i = 0; i < fnAmount; i++) {
            fn();
        }
        int inputAmount = 1 + dice.nextInt(4);
        for (int i = 0; i < inputAmount; i++) {
            String type = type();
            String name = fresh();
            text.append(pick("alice ", "bob ")).append(name).append(' ').append(type).append(";\n");
            keep(name, type);
        }
        while (room > 0) {
            statement(0, false);
        }
        for (Name name : names) {
            text.append("output ").append(name.name).append(";\n");
        }
        return text.toString();
    }

    /** The text with a few words or bytes changed. */
    String spoil(String good) {
        StringBuilder bad = new StringBuilder(good);
        String[] parts = {"(", ")", "[", "]", "{", "}", ",", ";", "=", "-", "!", "~", "+", "<<", "<",
            "==", "&&", "..", "if ", "else ", "let ", "output ", "return ", "fn ", "alice ", "u8 ",
            "bool ", "true ", "7", "0", "a ", "x1 ", ".", "_", "#", "\n", "@", "\u00e9", "*", "/", "%",
            "999999999999999999", "1234567890123456789", "aaaaaaaaaaaaa ", "for ", "in ", "1[0]"};
        int times = 1 + dice.nextInt(2);
        for (int i = 0; i < times && bad.length() > 2; i++) {
            int at = dice.nextInt(bad.length());
            int kind = dice.nextInt(4);
            if (kind == 0) {
                bad.deleteCharAt(at);
            } else if (kind == 1) {
                bad.insert(at, parts[dice.nextInt(parts.length)]);
            } else if (kind == 2) {
                bad.setCharAt(at, bad.charAt(dice.nextInt(bad.length())));
            } else {
                bad.delete(at, Math.min(bad.length(), at + 1 + dice.nextInt(12)));
            }
        }
        return bad.toString();
    }

    private String pick(String... some) {
        return some[dice.nextInt(some.length)];
    }

    private boolean slip() {
        return dice.nextInt(1000) < slips;
    }

    private String fresh() {
        return slip() && !names.isEmpty() ? names.get(dice.nextInt(names.size())).name
            : pick("a", "b", "c", "xy", "Z_") + next++;
    }

    private String base() {
        int kind = dice.nextInt(5);
        if (kind == 0) {
            return "bool";
        }
        return kind < 3 ? "u" + (1 + dice.nextInt(widest)) : "i" + (2 + dice.nextInt(widest - 1));
    }

    private String type() {
        return dice.nextInt(4) == 0 ? base() + "[" + (slip() ? dice.nextInt(40) : 1 + dice.nextInt(6))
            + "]" : base();
    }

    private void keep(String name, String type) {
        int bracket = type.indexOf('[');
        names.add(new Name(name, bracket < 0 ? type : type.substring(0, bracket), bracket < 0 ? 0
            : Integer.parseInt(type.substring(bracket + 1, type.length() - 1)), false));
    }

    private void fn() {
        List<Name> outer = names;
        names = new ArrayList<>();
        List<String> types = new ArrayList<>();
        String name = "f" + (slip() ? 0 : next++);
        text.append("fn ").append(name).append('(');
        int amount = dice.nextInt(4);
        for (int k = 0; k < amount; k++) {
            String type = type();
            String p = fresh();
            text.append(k > 0 ? ", " : "").append(p).append(' ').append(type);
            types.add(type);
            keep(p, type);
        }
        String result = type();
        text.append(") ").append(result).append(" {\n");
        int kept = room;
        room = dice.nextInt(3);
        while (room > 0) {
            statement(1, true);
        }
        room = kept;
        text.append("return ").append(ofType(result, 2)).append(";\n}\n");
        fns.add(new Fn(name, types, result));
        names = outer;
    }

    private void block(int depth, boolean quiet) {
        text.append("{ ");
        int size = names.size();
        int amount = dice.nextInt(3);
        for (int i = 0; i < amount; i++) {
            statement(depth + 1, quiet);
        }
        while (names.size() > size) {
            names.remove(names.size() - 1);
        }
        text.append("} ");
    }

    private void statement(int depth, boolean quiet) {
        room--;
        int kind = dice.nextInt(10);
        if (kind < 3) {
            String type = type();
            String e = ofType(type, 3);
            String name = fresh();
            text.append("let ").append(name).append(" = ");
            if (type.indexOf('[') < 0 && dice.nextInt(6) == 0) {
                text.append(loose(1)).append(";\n");
                keep(name, "i32");
            } else {
                text.append(typed(e, type)).append(";\n");
                keep(name, type);
            }
        } else if (kind < 6) {
            assignment();
        } else if (kind == 6 && depth < 3) {
            text.append("if ").append(ofBase("bool", 3)).append(' ');
            block(depth, true);
            if (dice.nextBoolean()) {
                text.append("else ");
                block(depth, true);
            }
        } else if (kind == 7 && depth < 2) {
            String name = fresh();
            int first = dice.nextInt(4);
            text.append("for ").append(name).append(" in ").append(first).append(" .. ")
                .append(first - 1 + dice.nextInt(5) + (slip() ? 255 : 0)).append(' ');
            names.add(new Name(name, "", 0, true));
            block(depth, quiet);
            names.remove(names.size() - 1);
        } else if (kind == 8 && (!quiet || slip())) {
            text.append("output ").append(typed(ofType(type(), 2), "")).append(";\n");
        }
    }

    private void assignment() {
        if (names.isEmpty()) {
            return;
        }
        Name to = names.get(dice.nextInt(names.size()));
        if (to.loop && !slip()) {
            return;
        }
        String base = to.loop ? "u8" : to.base;
        if (to.n > 0 && dice.nextInt(3) > 0) {
            text.append(to.name).append('[').append(index()).append("] = ").append(ofBase(base, 2));
        } else {
            text.append(to.name).append(" = ").append(ofType(to.n > 0 ? base + "[" + to.n + "]" : base, 3));
        }
        text.append(";\n");
    }

    /** A LOOSE one where a type is needed that the text must tell becomes a cast. */
    private String typed(String e, String type) {
        boolean loose = true;
        for (int i = 0; i < e.length(); i++) {
            loose &= "()-0123456789".indexOf(e.charAt(i)) >= 0;
        }
        for (Name name : names) {
            loose |= name.loop && e.replaceAll("[-() ]", "").equals(name.name);
        }
        return loose && !type.isEmpty() && type.indexOf('[') < 0 && !slip() ? type + "(" + e + ")" : e;
    }

    private String index() {
        return dice.nextInt(3) > 0 ? loose(1) : ofBase(pick("u", "i") + (2 + dice.nextInt(4)), 1);
    }

    private String loose(int depth) {
        List<String> loops = new ArrayList<>();
        for (Name name : names) {
            if (name.loop) {
                loops.add(name.name);
            }
        }
        String it = !loops.isEmpty() && dice.nextBoolean() ? loops.get(dice.nextInt(loops.size()))
            : "" + dice.nextInt(slip() ? 100000 : 4);
        if (dice.nextInt(8) == 0 && depth > 0) {
            return dice.nextBoolean() ? "-" + it : "(" + loose(depth - 1) + ")";
        }
        return it;
    }

    private String ofType(String type, int depth) {
        int bracket = type.indexOf('[');
        if (slip()) {
            return ofType(type(), depth);
        }
        if (bracket < 0) {
            return ofBase(type, depth);
        }
        String base = type.substring(0, bracket);
        int n = Integer.parseInt(type.substring(bracket + 1, type.length() - 1));
        for (Name name : names) {
            if (name.n == n && name.base.equals(base) && dice.nextBoolean()) {
                return name.name;
            }
        }
        String call = call(type, depth);
        if (call != null) {
            return call;
        }
        StringBuilder row = new StringBuilder("[");
        for (int k = 0; k < Math.max(1, n); k++) {
            String e = ofBase(base, Math.min(1, depth - 1));
            row.append(k > 0 ? ", " : "").append(k == 0 ? base + "(" + e + ")" : e);
        }
        return row.append(']').toString();
    }

    private String call(String result, int depth) {
        for (Fn fn : fns) {
            if (fn.result.equals(result) && depth > 0 && dice.nextInt(3) > 0) {
                StringBuilder call = new StringBuilder(fn.name).append('(');
                for (int k = 0; k < fn.types.size(); k++) {
                    call.append(k > 0 ? ", " : "").append(ofType(fn.types.get(k), depth - 1));
                }
                return call.append(slip() ? ", 1)" : ")").toString();
            }
        }
        return null;
    }

    private String leaf(String base) {
        for (int n = 0; n < 6 && !names.isEmpty(); n++) {
            Name name = names.get(dice.nextInt(names.size()));
            if (!name.loop && name.base.equals(base)) {
                return name.n > 0 ? name.name + "[" + loose(1) + "]" : name.name;
            }
        }
        if (base.equals("bool")) {
            return pick("true", "false");
        }
        for (int n = 0; n < 6 && !names.isEmpty(); n++) {
            Name name = names.get(dice.nextInt(names.size()));
            if (!name.loop && name.n == 0) {
                return base + "(" + name.name + ")";
            }
        }
        return dice.nextInt(3) == 0 ? "" + dice.nextInt(2) : base + "(" + loose(1) + ")";
    }

    private String ofBase(String base, int depth) {
        if (slip()) {
            return leaf(base());
        }
        if (depth <= 0) {
            return leaf(base);
        }
        String called = call(base, depth);
        if (called != null) {
            return called;
        }
        int kind = dice.nextInt(12);
        if (kind < 3) {
            return leaf(base);
        }
        if (kind == 3) {
            return "(" + ofBase(base, depth - 1) + ")";
        }
        if (kind == 4) {
            String other = base();
            return base + "(" + ofBase(other, depth - 1) + ")";
        }
        if (kind == 5) {
            for (Name name : names) {
                if (name.n > 0 && name.base.equals(base)) {
                    return name.name + "[" + index() + "]";
                }
            }
        }
        if (base.equals("bool")) {
            if (kind < 8) {
                String other = base();
                String sign = other.equals("bool") ? pick("==", "!=")
                    : pick("==", "!=", "<", "<=", ">", ">=");
                return other + "(" + ofBase(other, depth - 1) + ") " + sign + " " + ofBase(other, depth - 1);
            }
            return kind == 8 ? "!" + ofBase(base, depth - 1)
                : ofBase(base, depth - 1) + " " + pick("&&", "||", "&", "|", "^") + " " + ofBase(base, depth - 1);
        }
        if (kind == 6) {
            return pick("-", "~") + leaf(base);
        }
        if (kind == 7) {
            String by = dice.nextBoolean() ? loose(0) : ofBase("u" + (1 + dice.nextInt(7)), depth - 1);
            return "(" + ofBase(base, depth - 1) + " " + pick("<<", ">>") + " " + by + ")";
        }
        String sign = pick("+", "-", "*", "/", "%", "&", "|", "^");
        String right = dice.nextInt(6) == 0 ? loose(1) : ofBase(base, depth - 1);
        return (dice.nextBoolean() ? "(" + leaf(base) : "(" + ofBase(base, depth - 1)) + " " + sign + " " + right + ")";
    }
}
