/** Promises 4 and 6: FAULTS 1 and 2, the words and the grammar of Part I. */
public final class FormTest {
    public static void main(String[] args) {
        bytesThatBeginNoWord();
        wordsTooLong();
        wordsAndBlanks();
        theLongestSignCounts();
        oneComesAheadOfTwo();
        twoComesAheadOfAllOthers();
        typesNames();
        wholePrograms();
        functions();
        statements();
        expressions();
        bindings();
        depthOfExpressions();
        depthOfStatements();
        Kit.finish();
    }

    private static void bytesThatBeginNoWord() {
        String[] wrong = {"$", "_", ".", "\"", "'", "?", "@@", ":", "\\", "`", "\0", "\u007f", "\u0080",
            "\u00ff", "\f", "\u000b", "_a", ".1"};
        for (String bytes : wrong) {
            String text = "output " + bytes + ";";
            SecretHouse house = new SecretHouse();
            Kit.feed(house, text);
            Kit.due("kind of " + text, house.compile(), 1);
            Kit.due("place of " + text, house.place(), 7);
        }
        Kit.fault(1, "for k in 1..@.2 { }");
        Kit.fault(1, "for k in 1@. .2 { }");
        Kit.fault(1, "output 1@.");
    }

    private static void wordsTooLong() {
        Kit.tells("let a23456789012 = 3; output a23456789012;", 3);
        Kit.fault(1, "let @a234567890123 = 3;");
        Kit.fault(1, "let @abcdefghijklmnopqrstuvwxyz = 3;");
        Kit.tells("let A_ = u64(7); A_ = 999999999999999999; output A_;", 999999999999999999L);
        Kit.tells("let A_ = u64(7); A_ = 000000000000000001; output A_;", 1);
        Kit.fault(1, "let a = @1234567890123456789;");
        Kit.fault(1, "let a = @0000000000000000001;");
        Kit.fault(1, "let a = @99999999999999999999999999999999;");
    }

    private static void wordsAndBlanks() {
        Kit.tells("output\t1\r\n+\n2 ;", 3);
        Kit.tells("output 1 # + 4 $ \u00ff let\n;", 1);
        Kit.tells("#\n# all\noutput 1;#", 1);
        Kit.tells("output 1; # \u0001 at the end", 1);
        Kit.fault(2, "output 1 # ;@");
        Kit.fault(2, "output 1 # ; \r ;  @");
        Kit.tells("let a=true;if a{a=false;}output a;", 0);
        Kit.tells("let lets = 1; let in_ = 2; output lets + in_;", 3);
        Kit.tells("let Let = 1; output Let;", 1);
        Kit.fault(2, "output 1@a;");
        Kit.fault(2, "output 1 @2;");
        Kit.tells("", new long[0]);
        Kit.tells(" \n# nothing\n", new long[0]);
    }

    private static void theLongestSignCounts() {
        Kit.tells("let a = 5; output a<=5; output a>=6; output a==5; output a!=5;", 1, 0, 1, 0);
        Kit.tells("output true&&false||true; output 1<<2; output 8>>2;", 1, 4, 2);
        Kit.fault(2, "let a @== 1;");
        Kit.fault(2, "output 1 < @< 2;");
        Kit.fault(2, "output 1 & @& 2;");
        Kit.fault(2, "output 1 <<@= 2;");
        Kit.tells("output true&!false; output - -1; output 1--1;", 1, 1, 2);
        Kit.fault(2, "for k in 1 @2 { }");
    }

    private static void oneComesAheadOfTwo() {
        Kit.fault(1, "output ; let let x y @$ 3");
        Kit.fault(1, "output @$ ; let let $ 3");
        Kit.fault(1, "} @1234567890123456789 $");
    }

    private static void twoComesAheadOfAllOthers() {
        Kit.fault(2, "output x; output 300000000000; let a = true + 1; let @");
        Kit.fault(2, "fn f(a u8[99], a u8) u8 { return 1; } alice a u8[0]; output @;");
        Kit.fault(2, "if 5 { output 1; } else @if true { }");
    }

    private static void typesNames() {
        Kit.tells("let u0 = 1; let u65 = 2; let i1 = 3; let u08 = 4; let u = 5; let i = 6; let u100 = 7;"
            + "let i65 = 8; let u8_ = 9; let Bool = 10; output u0+u65+i1+u08+u+i+u100+i65+u8_+Bool;", 55);
        Kit.tells("let baol = 1; let boal = 2; let booa = 3; let boo = 4; output baol + boal + booa + boo;", 10);
        String[] types = {"u1", "u64", "i2", "i64", "bool", "u10", "i10"};
        for (String type : types) {
            Kit.fault(2, "let @" + type + " = 1;");
            Kit.fault(2, "alice @" + type + " u8;");
            Kit.compiled("alice a " + type + "; bob b " + type + "[3]; output a; output b;");
        }
        Kit.fault(2, "alice a @u0;");
        Kit.fault(2, "alice a @u65;");
        Kit.fault(2, "alice a @i1;");
        Kit.fault(2, "alice a @u08;");
        Kit.fault(2, "alice a @i;");
        Kit.fault(2, "alice a @8;");
        String[] words = {"alice", "bob", "else", "false", "fn", "for", "if", "in", "let", "output",
            "return", "true", "bool"};
        for (String word : words) {
            Kit.fault(2, "let @" + word + " = 1;");
        }
    }

    private static void wholePrograms() {
        Kit.fault(2, "output 1; @alice a u8;");
        Kit.fault(2, "alice a u8; @fn f() u8 { return 1; }");
        Kit.fault(2, "let a = 1; @fn f() u8 { return 1; }");
        Kit.fault(2, "let a = 1; @}");
        Kit.fault(2, "@;");
        Kit.fault(2, "@1;");
        Kit.fault(2, "@return 1;");
        Kit.fault(2, "@else { }");
        Kit.fault(2, "alice @;");
        Kit.fault(2, "alice a@;");
        Kit.fault(2, "alice a u8@");
        Kit.fault(2, "alice a u8 @, b u8;");
        Kit.fault(2, "alice a u8 [@] ;");
        Kit.fault(2, "alice a u8[@x];");
        Kit.fault(2, "alice a u8[3@;");
        Kit.fault(2, "alice a u8[3]@[3];");
        Kit.fault(2, "bob @bob u8;");
    }

    private static void functions() {
        Kit.tells("fn f() u8 { return 3; } fn g(a u8, b u8) u8 { let c = a; return c + b; } output g(f(), 4);", 7);
        Kit.fault(2, "fn @(");
        Kit.fault(2, "fn f@;");
        Kit.fault(2, "fn f(@");
        Kit.fault(2, "fn f(a@)");
        Kit.fault(2, "fn f(a u8 @b u8)");
        Kit.fault(2, "fn f(a u8,@) u8 { return 1; }");
        Kit.fault(2, "fn f(@, a u8) u8 { return 1; }");
        Kit.fault(2, "fn f() @{ return 1; }");
        Kit.fault(2, "fn f() u8 @return 1;");
        Kit.fault(2, "fn f() u8 { @}");
        Kit.fault(2, "fn f() u8 { return @; }");
        Kit.fault(2, "fn f() u8 { return 1 @}");
        Kit.fault(2, "fn f() u8 { return 1; @let a = 1; }");
        Kit.fault(2, "fn f() u8 { if true { @return 1; } return 2; }");
        Kit.fault(2, "fn f() u8 { @alice a u8; return 1; }");
        Kit.fault(2, "fn f() u8 { @fn g() u8 { return 1; } return 1; }");
        Kit.fault(2, "fn f() u8 { return 1; }@;");
        Kit.compiled("fn f(a u1,b u1,c u1,d u1,e u1,f u1,g u1,h u1) u1 { return h; } output f(0,0,0,0,0,0,0,1);");
        Kit.fault(2, "fn f(a u1,b u1,c u1,d u1,e u1,f u1,g u1,h u1,@i u1) u1 { return h; }");
        Kit.fault(2, "fn f(a u1,b u1,c u1,d u1,e u1,f u1,g u1,h u1,@) u1 { return h; }");
    }

    private static void statements() {
        Kit.fault(2, "let a @1;");
        Kit.fault(2, "let a = @;");
        Kit.fault(2, "let a = 1 @let b = 2;");
        Kit.fault(2, "let a@[0] = 1;");
        Kit.fault(2, "a @;");
        Kit.fault(2, "a[@] = 1;");
        Kit.fault(2, "a[1 @= 1;");
        Kit.fault(2, "a[1]@[2] = 1;");
        Kit.fault(2, "f@(1);");
        Kit.fault(2, "a = 1@");
        Kit.fault(2, "if @{ }");
        Kit.fault(2, "if true @;");
        Kit.fault(2, "if true { @; }");
        Kit.fault(2, "if true { } else @;");
        Kit.fault(2, "if true { } @; ");
        Kit.fault(2, "for @1 in 0 .. 1 { }");
        Kit.fault(2, "for k @0 .. 1 { }");
        Kit.fault(2, "for k in @-1 .. 1 { }");
        Kit.fault(2, "for k in 0 @1 { }");
        Kit.fault(2, "for k in 0 .. @a { }");
        Kit.fault(2, "for k in 0 .. 1 @;");
        Kit.fault(2, "for k in 0 .. 1 { @");
        Kit.fault(2, "output @output 1;");
    }

    private static void expressions() {
        Kit.fault(2, "output (1@;");
        Kit.fault(2, "output (@);");
        Kit.fault(2, "output 1 +@;");
        Kit.fault(2, "output @+ 1;");
        Kit.fault(2, "output f(1@;");
        Kit.fault(2, "output f(1,@);");
        Kit.fault(2, "output f(@,1);");
        Kit.fault(2, "output [@];");
        Kit.fault(2, "output [1,@];");
        Kit.fault(2, "output [1 @2];");
        Kit.fault(2, "output a[@];");
        Kit.fault(2, "output a[1@,2];");
        Kit.fault(2, "output u8@;");
        Kit.fault(2, "output u8(@);");
        Kit.fault(2, "output u8(1@,2);");
        Kit.fault(2, "output u8@[1](2);");
        Kit.fault(2, "output true@(1);");
        Kit.fault(2, "output a @{;");
        Kit.fault(2, "output @in;");
        Kit.fault(2, "output -@;");
        Kit.fault(2, "output (1)@(2);");
        Kit.fault(2, "output f(1)@(2);");
        Kit.fault(2, "output 1 @= 2;");
    }

    private static void bindings() {
        Kit.tells("output 2 + 3 * 4; output 2 * i8(3) + 4; output 20 - 3 - 4;", 14, 10, 13);
        Kit.tells("output 100 / i8(5) / 2; output 7 % i8(4) * 3; output 7 * i8(4) % 3;", 10, 9, 1);
        Kit.tells("output 1 + 2 << 1; output u8(16) >> u3(1) + 1; output 1 << 2 << 1;", 6, 4, 8);
        Kit.tells("output 1 << 2 < 5; output 3 < 4 == true; output true == 3 < 4;", 1, 1, 1);
        Kit.tells("output 6 & 3; output true & 1 == 2;", 2, 0);
        Kit.tells("output 1 | 2 ^ 3 & 2; output 7 ^ 1 | 1;", 1, 7);
        Kit.tells("output true || false && false; output true | false && false; output false && true || true;",
            1, 0, 1);
        Kit.tells("output - 3 + 5; output ~0 + 1; output !true || true; output -2 * 3;", 2, 0, 1, 4294967290L);
        Kit.tells("let r = [5, 6]; output -r[1]; output ~r[0] & 15;", 4294967290L, 10);
        Kit.tells("output [1, 2, 3][1];", 2);
        Kit.tells("output 10 - (3 - 4); output (1 + 2) * 3;", 11, 9);
    }

    private static void depthOfExpressions() {
        Kit.tells("output " + Kit.times("(", 40) + "1" + Kit.times(")", 40) + ";", 1);
        Kit.fault(2, "output " + Kit.times("(", 41) + "@1" + Kit.times(")", 41) + ";");
        Kit.fault(2, "output " + Kit.times("(", 41) + "@)");
        Kit.fault(2, "output " + Kit.times("(", 41) + "@" + Kit.times("(", 9));
        Kit.tells("output " + Kit.times("- ", 40) + "1;", 1);
        Kit.fault(2, "output " + Kit.times("- ", 41) + "@1;");
        Kit.fault(2, "output " + Kit.times("~!", 20) + "~@-1;");
        Kit.tells("let r = [3]; output " + Kit.times("r[", 40) + "0" + Kit.times("]", 40) + ";", 0);
        Kit.fault(2, "let r = [3]; output " + Kit.times("r[", 41) + "@0" + Kit.times("]", 41) + ";");
        Kit.tells("let r = [7, 8]; output " + Kit.times("(", 39) + "r[1]" + Kit.times(")", 39) + ";", 8);
        Kit.fault(2, "let r = [7, 8]; output " + Kit.times("(", 40) + "r[@1]" + Kit.times(")", 40) + ";");
        Kit.tells("output " + Kit.times("(", 39) + "[1, 2]" + Kit.times(")", 39) + "[1];", 2);
        Kit.fault(2, "output " + Kit.times("(", 40) + "[@1]" + Kit.times(")", 40) + ";");
        Kit.tells("fn f(a u8) u8 { return a; } output f(" + Kit.times("(", 39) + "1" + Kit.times(")", 39) + ");", 1);
        Kit.fault(2, "fn f(a u8) u8 { return a; } output f(" + Kit.times("(", 40) + "@1" + Kit.times(")", 40) + ");");
        Kit.tells("output u8(" + Kit.times("(", 39) + "1" + Kit.times(")", 39) + ");", 1);
        Kit.fault(2, "output " + Kit.times("(", 40) + "u8(@1)" + Kit.times(")", 40) + ";");
        Kit.fault(2, "fn f(a u8) u8 { return a; } output " + Kit.times("(", 40) + "f(@1)" + Kit.times(")", 40) + ";");
        Kit.fault(6, "fn f() u8 { return 1; } output " + Kit.times("(", 40) + "@f()" + Kit.times(")", 40) + ";");
        Kit.tells("let r = [7, 8]; r[" + Kit.times("(", 39) + "1" + Kit.times(")", 39) + "] = 5; output r[1];", 5);
        Kit.fault(2, "let r = [7, 8]; r[" + Kit.times("(", 40) + "@1" + Kit.times(")", 40) + "] = 5;");
        Kit.tells("fn f() u8 { return " + Kit.times("(", 39) + "1" + Kit.times(")", 39) + "; } output f();", 1);
        Kit.fault(2, "fn f() u8 { return " + Kit.times("(", 40) + "@1" + Kit.times(")", 40) + "; }");
        Kit.fault(2, "fn f() u8 { let a = " + Kit.times("(", 40) + "@1" + Kit.times(")", 40) + "; return 1; }");
        Kit.fault(2, "if true { let a = " + Kit.times("(", 40) + "@1" + Kit.times(")", 40) + "; }");
        Kit.compiled("if true { let a = " + Kit.times("(", 39) + "1" + Kit.times(")", 39) + "; }");
        Kit.tells("output 1" + Kit.times(" + (1)", 42) + ";", 43);
        Kit.tells("output " + Kit.times("-(", 20) + "1" + Kit.times(")", 20) + ";", 1);
        Kit.fault(2, "output " + Kit.times("-(", 20) + "-@1" + Kit.times(")", 20) + ";");
    }

    private static void depthOfStatements() {
        String open = Kit.times("if true { ", 40);
        String close = Kit.times("} ", 40);
        Kit.compiled(open + "let a = true; " + close);
        Kit.compiled(open + "if true { } " + close);
        Kit.fault(2, open + "if true { @let a = true; } " + close);
        Kit.fault(2, open + "if true { } else { @a = 1; } " + close);
        Kit.fault(2, open + "for k in 0 .. 0 { @k = 1; } " + close);
        Kit.fault(2, open + "if (@true) { } " + close);
        Kit.fault(2, open + "let a = -@1; " + close);
        Kit.compiled("fn f() u8 { " + Kit.times("if true { ", 39) + "let a = true; " + Kit.times("} ", 39)
            + "return 1; } output f();");
        Kit.fault(2, "fn f() u8 { " + Kit.times("if true { ", 40) + "@let a = true; " + Kit.times("} ", 40)
            + "return 1; }");
    }
}
