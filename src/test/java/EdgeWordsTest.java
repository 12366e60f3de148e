/** The boundary cases of Part I's words: NAMES, NUMBERS, SIGNS, what does not count, TYPES' names. */
public final class EdgeWordsTest {
    private static final String[] RESERVED = {"alice", "bob", "bool", "else", "false", "fn", "for", "if", "in",
        "let", "output", "return", "true"};
    private static final String SIGNS = "()[]{},;=+-*/%&|^~!<>";

    public static void main(String[] args) {
        eachByteAlone();
        eachByteInAName();
        eachByteBetweenWords();
        eachByteBehindASharp();
        lengthsOfNames();
        lastLettersOfNamesCount();
        reservedWords();
        typesNames();
        lengthsOfNumbers();
        theLongestSign();
        sharps();
        oneIsAheadOfTwo();
        Kit.finish();
    }

    private static boolean isLetter(int c) {
        return (c >= 'a' && c <= 'z') || (c >= 'A' && c <= 'Z');
    }

    private static boolean isDigit(int c) {
        return c >= '0' && c <= '9';
    }

    private static boolean isBlank(int c) {
        return c == 32 || c == 9 || c == 10 || c == 13;
    }

    private static void eachByteAlone() {
        for (int c = 0; c < 256; c++) {
            String text = String.valueOf((char) c);
            if (isBlank(c) || c == '#') {
                Kit.answers(text, 0, -1);
            } else if (isLetter(c)) {
                Kit.answers(text, 2, 1);
            } else if (isDigit(c) || SIGNS.indexOf(c) >= 0) {
                Kit.answers(text, 2, 0);
            } else {
                Kit.answers(text, 1, 0);
            }
        }
    }

    private static void eachByteInAName() {
        for (int c = 0; c < 256; c++) {
            String name = "a" + (char) c + "b";
            String text = "let " + name + " = 6; output " + name + ";";
            if (isLetter(c) || isDigit(c) || c == '_') {
                Kit.tells(text, 6);
            } else if (isBlank(c)) {
                Kit.answers(text, 2, 6);
            } else if (c == '#') {
                Kit.answers(text, 2, text.length());
            } else {
                Kit.answers(text, SIGNS.indexOf(c) >= 0 ? 2 : 1, c == '=' ? 8 : 5);
            }
        }
        Kit.fault(1, "let @_a = 1;");
        Kit.fault(2, "let @1a = 1;");
        Kit.tells("let a_ = 1; let a__ = 2; output a_; output a__;", 1, 2);
    }

    private static void eachByteBetweenWords() {
        for (int c = 0; c < 256; c++) {
            String text = "let" + (char) c + "a = 6; output a;";
            if (isBlank(c)) {
                Kit.tells(text, 6);
            } else if (c == '#') {
                Kit.answers(text, 2, text.length());
            } else if (isLetter(c) || isDigit(c) || c == '_') {
                Kit.answers(text, 3, 0);
            } else {
                Kit.answers(text, SIGNS.indexOf(c) >= 0 ? 2 : 1, 3);
            }
        }
    }

    private static void eachByteBehindASharp() {
        for (int c = 0; c < 256; c++) {
            String text = "output 1 # " + (char) c + " + 2\n;";
            if (c == 10) {
                Kit.tells(text, 3);
            } else {
                Kit.tells(text, 1);
            }
        }
    }

    /** A NAME of 1, 11, 12 or 13 bytes in each place where a NAME stands. */
    private static void lengthsOfNames() {
        int[] lengths = {1, 2, 11, 12, 13, 14, 100};
        for (int length : lengths) {
            String name = "N" + Kit.times("x", length - 1);
            String[] marked = {"let @" + name + " = 1; output " + name + ";",
                "alice @" + name + " i32; " + name + " = 1; output " + name + ";",
                "for @" + name + " in 1 .. 2 { output " + name + "; }",
                "fn @" + name + "() i32 { return 1; } output " + name + "();",
                "fn f(@" + name + " i32) i32 { return " + name + "; } output f(1);"};
            for (String text : marked) {
                if (length <= 12) {
                    Kit.tells(text.replace("@", ""), 1);
                } else {
                    Kit.fault(1, text);
                }
            }
        }
        Kit.fault(1, "output 1; @returnreturn1");
        Kit.fault(1, "let A = 1; output A + @A_23456789_123;");
        Kit.tells("output 1; # nobodycountsthatname\n", 1);
    }

    private static void lastLettersOfNamesCount() {
        Kit.tells("let abcdefghijkl = 1; let abcdefghijkm = 2; output abcdefghijkl; output abcdefghijkm;", 1, 2);
        Kit.tells("let abcdefghijk = 3; let abcdefghijkm = 2; output abcdefghijk; output abcdefghijkm;", 3, 2);
        Kit.tells("let a = 1; let A = 2; let aa = 3; output a; output A; output aa;", 1, 2, 3);
        Kit.fault(3, "let abcdefghijkl = 1; output @abcdefghijkm;");
        Kit.fault(3, "let abcdefghijkl = 1; output @bbcdefghijkl;");
    }

    private static void reservedWords() {
        for (String word : RESERVED) {
            Kit.fault(2, "let @" + word + " = 1;");
            Kit.fault(2, "alice @" + word + " u8;");
            Kit.fault(2, "for @" + word + " in 0 .. 1 { }");
            Kit.fault(2, "fn @" + word + "() u8 { return 1; }");
            Kit.fault(2, "fn f(@" + word + " u8) u8 { return 1; }");
            String less = word.substring(0, word.length() - 1);
            String[] near = {word + "x", word + "0", word + "_", less, "x" + word,
                Character.toUpperCase(word.charAt(0)) + word.substring(1), word.toUpperCase()};
            for (String name : near) {
                Kit.tells("let " + name + " = 5; output " + name + ";", 5);
            }
            for (int i = 0; i < word.length(); i++) {
                String name = word.substring(0, i) + "x" + word.substring(i + 1);
                Kit.tells("let " + name + " = 5; output " + name + ";", 5);
            }
        }
    }

    private static void typesNames() {
        for (int n = 0; n <= 130; n++) {
            typeOrName("u" + n, n >= 1 && n <= 64, n);
            typeOrName("i" + n, n >= 2 && n <= 64, n);
            typeOrName("u0" + n, false, 0);
            typeOrName("i0" + n, false, 0);
        }
        String[] names = {"u", "i", "U8", "I8", "u8_", "u8a", "ua", "i8u8", "u640", "u1000", "b8", "Bool", "bool1",
            "u264", "i264", "u65544", "i65544", "u4294967304", "i4294967304", "u99999999999", "i99999999999"};
        for (String name : names) {
            typeOrName(name, false, 0);
        }
        typeOrName("bool", true, 1);
    }

    private static void typeOrName(String word, boolean isType, int bits) {
        if (!isType) {
            Kit.tells("let " + word + " = 5; output " + word + ";", 5);
            Kit.fault(2, "alice a @" + word + ";");
            Kit.fault(2, "fn f(a @" + word + ") u8 { return 1; }");
            Kit.fault(2, "fn f() @" + word + " { return 1; }");
            Kit.fault(3, "output @" + word + "(1);");
            return;
        }
        Kit.fault(2, "let @" + word + " = 5;");
        SecretHouse house = Kit.compiled("fn f(a " + word + ") " + word + " { return a; } alice a " + word + "; bob b "
            + word + "[2]; output f(a); output b[1]; output " + word + "(1);");
        Kit.due("bits of " + word, house.bits(0, 0), bits);
        for (int k = 0; k < 2; k++) {
            Kit.due("bits of a row of " + word, house.bits(1, k), bits);
        }
        for (int k = 0; k < 3; k++) {
            Kit.due("bits of outputs of " + word, house.bits(2, k), bits);
        }
    }

    private static void lengthsOfNumbers() {
        for (int length = 1; length <= 18; length++) {
            String nines = Kit.times("9", length);
            Kit.tells("alice a u64; output a + " + nines + ";", Long.parseLong(nines));
            Kit.tells("alice a u64; output a + " + Kit.times("0", length - 1) + "7;", 7);
            Kit.tells("for k in " + nines + " .. " + nines + " { }", new long[0]);
        }
        for (int length = 19; length <= 21; length++) {
            Kit.fault(1, "alice a u64; output a + @" + Kit.times("9", length) + ";");
            Kit.fault(1, "alice a u64; output a + @" + Kit.times("0", length) + ";");
            Kit.fault(1, "alice a u64; output a + @" + Kit.times("0", length - 1) + "1;");
            Kit.fault(1, "alice a u8[@" + Kit.times("0", length - 1) + "1];");
            Kit.fault(1, "for k in 0 .. @" + Kit.times("1", length) + " { }");
        }
        Kit.tells("alice a u8[000000000000000001]; output a;", 0);
        Kit.fault(2, "output 1@a;");
        Kit.fault(2, "output 123456789012345678@a;");
        Kit.fault(1, "output @1234567890123456789a;");
        Kit.fault(1, "output 1@_;");
    }

    private static void theLongestSign() {
        Kit.tells("output 1<=1; output 1>=2; output 1==1; output 1!=1; output true&&true; output false||false; "
            + "output 1<<1; output 2>>1; for k in 0..1{output k;}", 1, 0, 1, 0, 1, 0, 2, 1, 0);
        String[] parted = {"1 <@ = 1", "1 >@ = 1", "1@ = = 1", "1@ ! = 1", "true &@ & true", "true |@ | true",
            "1 <@ < 1", "1 >@ > 1"};
        for (String e : parted) {
            String text = "output " + e + ";";
            int mark = text.indexOf('@');
            Kit.fault(2, text.substring(0, mark) + " @" + text.substring(mark + 2));
        }
        String[] threes = {"<=@=", ">=@=", "==@=", "!=@=", "&&@&", "||@|", "<<@<", ">>@>", "<<@=", ">>@=", "<=@<",
            ">=@>", "==@>", "<@>", "&@|", "+@+", "*@*", "/@/", "%@%", "^@^", "=@", "..@", "&&@=", "||@="};
        for (String sign : threes) {
            if (sign.equals("=@") || sign.equals("..@")) {
                Kit.fault(2, "output 1@" + sign.substring(0, sign.length() - 1) + "1;");
            } else {
                Kit.fault(2, "output 1" + sign + "1;");
            }
        }
        Kit.fault(1, "for k in 0@. .1 { }");
        Kit.fault(1, "for k in 0..@.1 { }");
        Kit.fault(2, "for k in 0..@..1 { }");
        Kit.tells("output !!true; output --1; output ~~1; output -~-1; output 1--1; output true&!true;",
            1, 1, 1, 0, 2, 0);
        Kit.tells("let a=-1; output a; output a<-a; output a==-1; output true!=!true;", 4294967295L, 1, 1, 1);
        Kit.fault(2, "let a@==1;");
        Kit.fault(2, "output @!=true;");
        Kit.fault(2, "let a @<= 1;");
    }

    private static void sharps() {
        Kit.tells("output 1;#", 1);
        Kit.tells("#\noutput 1;", 1);
        Kit.tells("output#\n1#\n;#\n", 1);
        Kit.tells("output 1#2\n;", 1);
        Kit.tells("output 1##\n#\n+ 2;", 3);
        Kit.answers("#", 0, -1);
        Kit.answers("#\n", 0, -1);
        Kit.answers("# \r ;", 0, -1);
        Kit.answers("#\r;\n", 0, -1);
        Kit.answers("#\n;", 2, 2);
        Kit.answers("output 1 #;", 2, 11);
        Kit.answers("output 1 #;\n", 2, 12);
        Kit.answers("out#\nput 1;", 2, 5);
    }

    private static void oneIsAheadOfTwo() {
        Kit.fault(1, "; ; ; @$");
        Kit.fault(1, "; @abcdefghijklm");
        Kit.fault(1, "; @1234567890123456789");
        Kit.fault(1, "@$ ; $");
        Kit.fault(1, "@abcdefghijklm $");
        Kit.fault(1, "output x; output 99999999999; output true + 1; @?");
        Kit.fault(1, "output " + Kit.times("(", 60) + "@?");
        Kit.fault(2, "@; # $");
    }
}
