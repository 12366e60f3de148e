/** The boundary cases of Part I's grammar: what may be cut, how many there may be, how deep, what binds. */
public final class EdgeGrammarTest {
    /** By how much they bind, the least first. */
    private static final String[][] LEVELS = {{"||"}, {"&&"}, {"|"}, {"^"}, {"&"}, {"==", "!="},
        {"<", "<=", ">", ">="}, {"<<", ">>"}, {"+", "-"}, {"*", "/", "%"}};
    private static final String NAMES = "fn f(a u8) u8 { return a; } alice a u8; bob b bool; bob r u8[2]; ";

    public static void main(String[] args) {
        programsCutAtAnyWord();
        aWordTooMany();
        parameters();
        elementsOfTypes();
        whereFnsAndInputsStand();
        emptyParts();
        bindings();
        aheadBindsMoreThanAll();
        depthOfExpressions();
        depthOfStatements();
        depthOfReturns();
        depthsAdd();
        tooDeepIsAheadOfWhatIsBehind();
        Kit.finish();
    }

    /** The words of a whole program; a '|' marks where it may end. */
    private static final String WORDS = "| fn f ( a u8 , b bool [ 2 ] ) u8 { let c = a ; c = c + 1 ; return c ; } | "
        + "fn g ( ) bool { return true ; } | alice x u8 ; | bob y bool [ 2 ] ; | let z = f ( x , y ) ; | "
        + "y [ 1 ] = ! y [ 0 ] && g ( ) ; | if y [ 0 ] { z = - z ; } | else { z = ~ z ; } | "
        + "for k in 0 .. 3 { if true { } else { } output ( k ) ; } | let w = [ z , 1 , u8 ( 2 ) ] ; | "
        + "output w [ 0 ] * 2 ; |";

    private static void programsCutAtAnyWord() {
        String[] words = WORDS.split(" ");
        StringBuilder text = new StringBuilder();
        int ends = 0;
        for (int n = 0; n < words.length; n++) {
            if (words[n].equals("|")) {
                continue;
            }
            boolean mayEnd = n > 0 && words[n - 1].equals("|");
            ends += mayEnd ? 1 : 0;
            Kit.answers(text.toString(), mayEnd ? 0 : 2, mayEnd ? -1 : text.length());
            text.append(words[n]).append(' ');
        }
        Kit.answers(text.toString(), 0, -1);
        Kit.due("places where it may end", ends, 11);
    }

    /** A word ahead of any word of a good program, but for its own like, is where the FAULT is. */
    private static void aWordTooMany() {
        String[] words = WORDS.replace("| ", "").replace(" |", "").split(" ");
        String[] wrong = {"..", "in"};
        for (String more : wrong) {
            StringBuilder text = new StringBuilder();
            for (int n = 0; n < words.length; n++) {
                StringBuilder whole = new StringBuilder(text).append('@').append(more);
                for (int k = n; k < words.length; k++) {
                    whole.append(' ').append(words[k]);
                }
                if (!words[n].equals(more)) {
                    Kit.fault(2, whole.toString());
                }
                text.append(words[n]).append(' ');
            }
        }
    }

    private static String parameters(int amount) {
        StringBuilder text = new StringBuilder();
        for (int k = 0; k < amount; k++) {
            text.append(k == 0 ? "" : ", ").append(k == 8 ? "@" : "").append('p').append(k).append(" u8");
        }
        return text.toString();
    }

    private static void parameters() {
        for (int amount = 0; amount <= 8; amount++) {
            String es = amount == 0 ? "" : "1" + Kit.times(", 1", amount - 2) + (amount > 1 ? ", 9" : "");
            String last = amount == 0 ? "5" : "p" + (amount - 1);
            Kit.tells("fn f(" + parameters(amount) + ") u8 { return " + last + "; } output f(" + es + ");",
                amount == 0 ? 5 : amount == 1 ? 1 : 9);
        }
        for (int amount = 9; amount <= 12; amount++) {
            Kit.fault(2, "fn f(" + parameters(amount) + ") u8 { return 1; }");
        }
        Kit.fault(2, "fn f(" + parameters(9) + " u8) u8 { return 1; }");
        Kit.fault(2, "fn f(" + parameters(8) + ") u8 { return 1 @}");
        Kit.fault(2, "fn f(" + parameters(8) + ", @) u8 { return 1; }");
        Kit.fault(2, "fn f(" + parameters(8) + ", @1) u8 { return 1; }");
        Kit.fault(2, "fn f(a u8) u8 { return 1; } fn g(" + parameters(9) + ") u8 { return 1; }");
    }

    /** A row's TYPE has 1 .. 32 elements, of inputs, of P's and of what is returned. */
    private static void elementsOfTypes() {
        long[] numbers = {0, 1, 2, 31, 32, 33, 256, 1L << 32, (1L << 32) + 1, 999999999999999999L};
        for (long n : numbers) {
            String[] marked = {"alice a u2[@" + n + "];", "bob a bool[@" + n + "];",
                "fn f(a u2[@" + n + "]) u8 { return 1; }", "fn f(b u8, a i64[@" + n + "]) u8 { return 1; }",
                "fn f() u2[@" + n + "] { return 1; }"};
            for (String text : marked) {
                if (n >= 1 && n <= 32) {
                    Kit.compiled(text.replace("@", ""));
                } else {
                    Kit.fault(4, text);
                }
            }
        }
        for (int n = 1; n <= 32; n++) {
            SecretHouse house = Kit.compiled("alice a u3[" + n + "]; bob b bool[" + n + "]; output b;");
            Kit.due("ELEMENTS of a row", house.count(0), n);
            Kit.due("ELEMENTS of a row", house.count(1), n);
            Kit.due("ELEMENTS of a row", house.count(2), n);
        }
        Kit.fault(2, "alice a u8[@];");
        Kit.fault(2, "alice a u8[@-1];");
        Kit.fault(2, "alice a u8[1]@[1];");
    }

    private static void whereFnsAndInputsStand() {
        String fn = "fn f() u8 { return 1; } ";
        Kit.compiled(fn + "fn g() u8 { return f(); } alice a u8; bob b u8; output a;");
        Kit.fault(2, "alice a u8; @" + fn);
        Kit.fault(2, "output 1; @" + fn);
        Kit.fault(2, fn + "output 1; @alice a u8;");
        Kit.fault(2, fn + "output 1; @bob a u8;");
        Kit.fault(2, "if true { @alice a u8; }");
        Kit.fault(2, "if true { @" + fn + "}");
        Kit.fault(2, fn + "@return 1;");
    }

    private static void emptyParts() {
        Kit.answers("", 0, -1);
        Kit.compiled("if true { }");
        Kit.compiled("if true { } else { }");
        Kit.compiled("for k in 0 .. 9 { }");
        Kit.tells("fn f() u8 { return 2; } output f();", 2);
        Kit.fault(2, "fn f() u8 { @}");
        Kit.fault(2, "output [@];");
        Kit.fault(2, "output (@);");
        Kit.fault(2, "output u8(@);");
        Kit.fault(2, "output r[@];");
        Kit.fault(2, "r[@] = 1;");
        Kit.fault(2, "output @;");
        Kit.fault(2, "let a = @;");
        Kit.fault(2, "@;");
        Kit.fault(2, "@{ }");
    }

    /** Each two signs behind one another: as with ( ) where the binding puts them, and not as without. */
    private static void bindings() {
        for (int one = 0; one < LEVELS.length; one++) {
            for (int two = 0; two < LEVELS.length; two++) {
                for (String x : LEVELS[one]) {
                    for (String y : LEVELS[two]) {
                        grouped("u3", x, y, one >= two);
                        grouped("bool", x, y, one >= two);
                    }
                }
            }
        }
    }

    private static void grouped(String type, String x, String y, boolean left) {
        String names = "alice a #; bob b #; bob c #; ".replace("#", type);
        String with = left ? "(a " + x + " b) " + y + " c;" : "a " + x + " (b " + y + " c);";
        sameAnswers(names + "output a " + x + " b " + y + " c;", names + "output " + with, left);
    }

    private static void sameAnswers(String plain, String grouped, boolean left) {
        SecretHouse one = new SecretHouse();
        SecretHouse other = new SecretHouse();
        Kit.feed(one, plain);
        Kit.feed(other, grouped);
        int kind = one.compile();
        Kit.due("kind of " + plain, kind, other.compile());
        Kit.due("kind of " + plain, kind == 0 || kind == 4, true);
        if (kind == 4) {
            int firstSign = plain.indexOf("output a ") + 9;
            boolean atFirst = one.place() == firstSign;
            int shifted = left ? (atFirst ? 1 : 2) : (atFirst ? 0 : 1);
            Kit.due("place of " + plain, one.place(), other.place() - shifted);
            return;
        }
        for (int n = 0; n < 512; n += 5) {
            long[] given = {n & 7, n >> 3 & 7, n >> 6 & 7};
            other.give(0, 0, 0, (int) given[0]);
            other.give(1, 0, 0, (int) given[1]);
            other.give(1, 1, 0, (int) given[2]);
            Kit.due("run", other.run(), true);
            Kit.tellsWith(plain, one, given, other.value(0));
        }
    }

    private static void aheadBindsMoreThanAll() {
        String names = "alice z i8; let r = [i8(3), 5]; let s = [true, false]; ";
        Kit.tells(names + "output -r[0] * r[1]; output ~r[0] + r[1]; output !s[1] && s[1];", 241, 1, 0);
        Kit.tells(names + "output z - -r[0]; output - - -r[1]; output -~r[0]; output ~-r[0]; output !!s[0];",
            3, 251, 4, 2, 1);
        Kit.tells(names + "output -r[0] < r[1]; output !s[0] == s[1]; output [r[1], r[0]][1];", 1, 1, 3);
        Kit.fault(4, names + "output (-r[0])@[0];");
        Kit.fault(4, names + "output @-r;");
        Kit.fault(4, names + "output r[0]@[0];");
    }

    /** Only the form is looked at in a loop without a round: E stands 1 deep there. */
    private static String undone(String statement) {
        return NAMES + "for k in 0 .. 0 { " + statement + " }";
    }

    private static void depthOfExpressions() {
        String[][] parts = {{"(", ")"}, {"-", ""}, {"~", ""}, {"!", ""}, {"- ", ""}, {"u8(", ")"}, {"bool(", ")"},
            {"[", "]"}, {"f(", ")"}, {"r[", "]"}, {"1 + (", ") * 2"}, {"(", ")[0]"},
            {"[", "][0]"}};
        for (String[] part : parts) {
            for (int times = 38; times <= 41; times++) {
                String e = Kit.times(part[0], times) + "@a" + Kit.times(part[1], times);
                String[] statements = {"let x = " + e + ";", "output " + e + ";", "a = " + e + ";",
                    "r[0] = " + e + ";", "if " + e + " { }"};
                for (String s : statements) {
                    depth(undone(s), times + 1);
                }
                depth(undone("r[" + e + "] = 1;"), times + 2);
                depth("fn g() u8 { return " + e + "; }", times + 1);
            }
        }
        for (int times = 39; times <= 41; times++) {
            depth("output " + Kit.times("(", times) + "@1" + Kit.times(")", times) + ";", times);
            depth("let x = " + Kit.times("-", times) + "@1;", times);
        }
        for (String open : new String[] {"[", "f("}) {
            String close = open.equals("[") ? "]" : ")";
            Kit.compiled(undone("let x = " + Kit.times(open + "1, ", 39) + "a" + Kit.times(close, 39) + ";"));
            Kit.fault(2, undone("let x = " + Kit.times(open + "1, ", 39) + open + "@1, a" + Kit.times(close, 40) + ";"));
        }
        Kit.tells("alice a u7; output a" + Kit.times(" + (1)", 60) + ";", 60);
        Kit.compiled(undone("let x = a" + Kit.times(" < -a", 60) + ";"));
        Kit.tells("let a = u1(1); output (((a)))" + Kit.times(" ^ (((a)))", 60) + ";", 1);
    }

    /** The mark is at the first word of what stands so deep. */
    private static void depth(String marked, int deep) {
        if (deep > 40) {
            String text = marked.replace("@", "");
            int first = firstTooDeep(marked, deep);
            Kit.answers(text, 2, first);
        } else {
            Kit.compiled(marked.replace("@", ""));
        }
    }

    /** What stands 41 deep is the marked word, or one of what is around it, so many words ahead. */
    private static int firstTooDeep(String marked, int deep) {
        int place = marked.indexOf('@');
        String ahead = marked.substring(0, place);
        if (deep == 41) {
            return place;
        }
        String[] openings = {"1 + (", "bool(", "u8(", "f(", "r[", "- ", "(", "-", "~", "!", "["};
        for (int n = deep; n > 41; n--) {
            for (String opening : openings) {
                if (ahead.endsWith(opening)) {
                    ahead = ahead.substring(0, ahead.length() - opening.length());
                    break;
                }
            }
        }
        return ahead.length();
    }

    private static void depthOfStatements() {
        String[][] parts = {{"if b { ", "} "}, {"if b { } else { ", "} "}, {"for k@ in 0 .. 0 { ", "} "},
            {"if b { ", "} else { } "}};
        String[] statements = {"let x = a; ", "a = a; ", "r = r; ", "if b { } ",
            "for j in 0 .. 0 { } ", "output a; "};
        for (String[] part : parts) {
            for (String s : statements) {
                for (int times = 39; times <= 41; times++) {
                    StringBuilder open = new StringBuilder();
                    for (int n = 0; n < times; n++) {
                        open.append(part[0].replace("@", "" + n));
                    }
                    String text = NAMES + "for i in 0 .. 0 { " + open;
                    String whole = text + s + Kit.times(part[1], times) + "}";
                    if (times + 1 <= 40) {
                        Kit.compiled(whole);
                    } else if (times == 40) {
                        Kit.answers(whole, 2, text.length());
                    } else {
                        Kit.answers(whole, 2, text.length() - part[0].replace("@", "40").length());
                    }
                }
            }
        }
        Kit.compiled(Kit.times("if true { ", 40) + "let a = true; " + Kit.times("} ", 40));
        Kit.fault(2, Kit.times("if true { ", 41) + "@let a = true; " + Kit.times("} ", 41));
        Kit.compiled(Kit.times("if true { ", 41) + Kit.times("} ", 41));
        Kit.fault(2, Kit.times("if true { ", 41) + "@if true { } " + Kit.times("} ", 41));
    }

    private static void depthOfReturns() {
        for (int times = 38; times <= 40; times++) {
            depth("fn g() u8 { return " + Kit.times("(", times) + "@1" + Kit.times(")", times) + "; }", times + 1);
            depth("fn g() u8 { let a = " + Kit.times("(", times) + "@1" + Kit.times(")", times) + "; return 1; }",
                times + 1);
            depth("fn g() u8 { if " + Kit.times("(", times) + "@1" + Kit.times(")", times) + " { } return 1; }", times + 1);
        }
        Kit.compiled("fn g() u8 { " + Kit.times("if true { ", 39) + "let a = 1; " + Kit.times("} ", 39) + "return 1; }");
        Kit.fault(2, "fn g() u8 { " + Kit.times("if true { ", 40) + "@let a = 1; " + Kit.times("} ", 40) + "return 1; }");
    }

    private static void depthsAdd() {
        for (int ifs = 0; ifs <= 40; ifs++) {
            String open = Kit.times("if true { ", ifs);
            String close = Kit.times("} ", ifs);
            for (int more = 39 - ifs; more <= 41 - ifs; more++) {
                if (more < 0) {
                    continue;
                }
                depth(open + "let a = " + Kit.times("(", more) + "@true" + Kit.times(")", more) + "; " + close,
                    ifs + more);
                depth(open + "if " + Kit.times("!", more) + "@true { } " + close, ifs + more);
            }
        }
        Kit.tells("output " + Kit.times("(-", 20) + "1" + Kit.times(")", 20) + ";", 1);
        Kit.fault(2, "output " + Kit.times("(-", 20) + "(@1)" + Kit.times(")", 20) + ";");
        Kit.compiled(undone("r[" + Kit.times("r[", 38) + "a" + Kit.times("]", 38) + "] = a;"));
        Kit.fault(2, undone("r[" + Kit.times("r[", 39) + "@a" + Kit.times("]", 39) + "] = a;"));
        Kit.compiled(undone("a = " + Kit.times("-", 38) + "r[a];"));
        Kit.fault(2, undone("a = " + Kit.times("-", 39) + "r[@a];"));
        Kit.compiled(undone("a = " + Kit.times("-", 39) + "f();"));
        Kit.fault(2, undone("a = " + Kit.times("-", 39) + "f(@1);"));
        Kit.fault(2, undone("a = " + Kit.times("-", 39) + "f(@-);"));
    }

    private static void tooDeepIsAheadOfWhatIsBehind() {
        Kit.fault(2, "output " + Kit.times("(", 41) + "@1 1;");
        Kit.fault(2, "output " + Kit.times("(", 41) + "@;");
        Kit.fault(2, "output 1 @1 + " + Kit.times("(", 41) + "1;");
        Kit.fault(2, "output x; output " + Kit.times("(", 41) + "@1;");
        Kit.fault(2, "output " + Kit.times("(", 41) + "@");
        Kit.fault(2, "output " + Kit.times("(", 40) + "@");
    }
}
