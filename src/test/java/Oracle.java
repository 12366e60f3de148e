import java.math.BigInteger;
import java.util.ArrayList;
import java.util.HashMap;
import java.util.List;
import java.util.Map;
import java.util.Set;
import java.util.regex.Matcher;
import java.util.regex.Pattern;

/**
 * The document's Parts I and II once more, written apart from the class and in another way: a tree
 * of nodes that is walked anew for each run, with whole numbers for values and no gates.
 */
final class Oracle {
    /** A FAULT. */
    static final class Fault extends RuntimeException {
        private static final long serialVersionUID = 1L;
        final int kind;
        final int place;

        Fault(int kind, int place) {
            super(null, null, false, false);
            this.kind = kind;
            this.place = place;
        }
    }

    private record Token(String kind, String text, int at) {
    }

    /** A type: b, u or i, its bits, and how many elements a row has (0: no row). */
    private record Type(char base, int bits, int n) {
        boolean number() {
            return n == 0 && base != 'b';
        }

        Type element() {
            return new Type(base, bits, 0);
        }

        int all() {
            return bits * Math.max(1, n);
        }

        boolean has(BigInteger x) {
            if (!number()) {
                return false;
            }
            BigInteger low = base == 'u' ? BigInteger.ZERO : BigInteger.TWO.pow(bits - 1).negate();
            BigInteger high = BigInteger.TWO.pow(base == 'u' ? bits : bits - 1);
            return x.compareTo(low) >= 0 && x.compareTo(high) < 0;
        }

        BigInteger wrap(BigInteger x) {
            BigInteger y = x.mod(BigInteger.TWO.pow(bits));
            boolean below = base == 'i' && y.testBit(bits - 1);
            return below ? y.subtract(BigInteger.TWO.pow(bits)) : y;
        }
    }

    private static final Type BOOL = new Type('b', 1, 0);
    private static final Type I32 = new Type('i', 32, 0);

    /** A value; it is loose if it has no type. */
    private static final class Val {
        Type type;
        BigInteger[] x;
        int at;

        Val(Type type, BigInteger... x) {
            this.type = type;
            this.x = x;
        }

        boolean loose() {
            return type == null;
        }
    }

    private static final class Node {
        final String what;
        final Token token;
        final List<Node> parts = new ArrayList<>();
        int depth;
        int first;
        Token other;

        Node(String what, Token token) {
            this.what = what;
            this.token = token;
            this.first = token.at;
        }
    }

    private static final class Fn {
        Token name;
        List<Token> names = new ArrayList<>();
        List<TypeText> types = new ArrayList<>();
        TypeText result;
        List<Node> body;
        Node back;
        List<Type> known = new ArrayList<>();
        Type told;
    }

    private record TypeText(Token base, Token number) {
    }

    private record Input(Token party, Token name, TypeText type) {
    }

    private static final Set<String> WORDS = Set.of("alice", "bob", "else", "false", "fn", "for",
        "if", "in", "let", "output", "return", "true");
    private static final Pattern LEX = Pattern.compile("(?<blank>[ \\t\\n\\r]+|#[^\\n]*)"
        + "|(?<name>[A-Za-z][A-Za-z0-9_]*)|(?<number>[0-9]+)"
        + "|(?<sign><=|>=|==|!=|&&|\\|\\||<<|>>|\\.\\.|[()\\[\\]{},;=+\\-*/%&|^~!<>])");
    private static final Pattern BASE =
        Pattern.compile("bool|u([1-9]|[1-5][0-9]|6[0-4])|i([2-9]|[1-5][0-9]|6[0-4])");
    private static final String[][] LEVELS = {{"||"}, {"&&"}, {"|"}, {"^"}, {"&"}, {"==", "!="},
        {"<", "<=", ">", ">="}, {"<<", ">>"}, {"+", "-"}, {"*", "/", "%"}};

    private final String text;
    private final List<Token> tokens = new ArrayList<>();
    private int p = 0;
    private final List<Fn> fns = new ArrayList<>();
    private final List<Input> inputs = new ArrayList<>();
    private List<Node> main;

    /** What compile() is to answer. */
    int kind = 0;
    int place = -1;
    int cost = 0;
    final List<List<Integer>> widths = new ArrayList<>();
    final List<Long> told = new ArrayList<>();
    private long[][] given;
    private int ifs;
    private int inFn;

    Oracle(String text) {
        this.text = text;
        try {
            lex();
            parse();
            perform(new long[2][256]);
        } catch (Fault fault) {
            kind = fault.kind;
            place = fault.place;
        }
    }

    // ---- words

    private void lex() {
        Matcher m = LEX.matcher(text);
        int at = 0;
        while (at < text.length()) {
            m.region(at, text.length());
            if (!m.lookingAt()) {
                throw new Fault(1, at);
            }
            String word = m.group();
            if (m.group("name") != null) {
                if (word.length() > 12) {
                    throw new Fault(1, at);
                }
                String kind = BASE.matcher(word).matches() ? "base"
                    : WORDS.contains(word) ? word : "name";
                tokens.add(new Token(kind, word, at));
            } else if (m.group("number") != null) {
                if (word.length() > 18) {
                    throw new Fault(1, at);
                }
                tokens.add(new Token("number", word, at));
            } else if (m.group("sign") != null) {
                tokens.add(new Token(word, word, at));
            }
            at = m.end();
        }
        tokens.add(new Token("end", "", text.length()));
    }

    // ---- grammar

    private Token here() {
        return tokens.get(p);
    }

    private boolean is(String kind) {
        return here().kind.equals(kind);
    }

    private Token need(String kind) {
        if (!is(kind)) {
            throw new Fault(2, here().at);
        }
        return tokens.get(p++);
    }

    private void parse() {
        while (is("fn")) {
            parseFn();
        }
        while (is("alice") || is("bob")) {
            Token party = tokens.get(p++);
            Token name = need("name");
            TypeText type = parseType();
            need(";");
            inputs.add(new Input(party, name, type));
        }
        main = new ArrayList<>();
        while (!is("end")) {
            main.add(parseS(0));
        }
    }

    private void parseFn() {
        Fn fn = new Fn();
        need("fn");
        fn.name = need("name");
        need("(");
        if (!is(")")) {
            do {
                if (fn.names.size() == 8) {
                    throw new Fault(2, here().at);
                }
                fn.names.add(need("name"));
                fn.types.add(parseType());
            } while (is(",") && need(",") != null);
        }
        need(")");
        fn.result = parseType();
        need("{");
        fn.body = new ArrayList<>();
        while (!is("return")) {
            fn.body.add(parseS(1));
        }
        need("return");
        fn.back = parseE(1, 0);
        need(";");
        need("}");
        fns.add(fn);
    }

    private TypeText parseType() {
        Token base = need("base");
        Token number = null;
        if (is("[")) {
            p++;
            number = need("number");
            need("]");
        }
        return new TypeText(base, number);
    }

    private List<Node> block(int depth) {
        List<Node> list = new ArrayList<>();
        need("{");
        while (!is("}")) {
            list.add(parseS(depth + 1));
        }
        need("}");
        return list;
    }

    private Node group(List<Node> nodes, Token token) {
        Node node = new Node("block", token);
        node.parts.addAll(nodes);
        return node;
    }

    private Node parseS(int depth) {
        Token t = here();
        if (depth > 40) {
            throw new Fault(2, t.at);
        }
        Node s;
        switch (t.kind) {
            case "let":
                p++;
                s = new Node("let", t);
                s.other = need("name");
                need("=");
                s.parts.add(parseE(depth, 0));
                need(";");
                return s;
            case "output":
                p++;
                s = new Node("output", t);
                s.parts.add(parseE(depth, 0));
                need(";");
                return s;
            case "if":
                p++;
                s = new Node("if", t);
                s.parts.add(parseE(depth, 0));
                s.parts.add(group(block(depth), t));
                if (is("else")) {
                    p++;
                    s.parts.add(group(block(depth), t));
                }
                return s;
            case "for":
                p++;
                s = new Node("for", t);
                s.other = need("name");
                need("in");
                s.parts.add(new Node("number", need("number")));
                need("..");
                s.parts.add(new Node("number", need("number")));
                s.parts.add(group(block(depth), t));
                return s;
            case "name":
                p++;
                s = new Node("assign", t);
                if (is("[")) {
                    s.other = need("[");
                    s.parts.add(parseE(depth + 1, 0));
                    need("]");
                }
                need("=");
                s.parts.add(parseE(depth, 0));
                need(";");
                return s;
            default:
                throw new Fault(2, t.at);
        }
    }

    private Node parseE(int depth, int level) {
        if (level == LEVELS.length) {
            return parseAhead(depth);
        }
        Node left = parseE(depth, level + 1);
        while (List.of(LEVELS[level]).contains(here().kind)) {
            Node sign = new Node("sign", tokens.get(p++));
            sign.first = left.first;
            sign.parts.add(left);
            sign.parts.add(parseE(depth, level + 1));
            left = sign;
        }
        return left;
    }

    private Node parseAhead(int depth) {
        Token t = here();
        if (depth > 40) {
            throw new Fault(2, t.at);
        }
        if (is("-") || is("!") || is("~")) {
            p++;
            Node node = new Node("ahead", t);
            node.parts.add(parseAhead(depth + 1));
            return node;
        }
        Node x = parseX(depth);
        while (is("[")) {
            Node node = new Node("index", need("["));
            node.first = x.first;
            node.parts.add(x);
            node.parts.add(parseE(depth + 1, 0));
            need("]");
            x = node;
        }
        return x;
    }

    private Node parseX(int depth) {
        Token t = here();
        Node node;
        switch (t.kind) {
            case "number":
            case "true":
            case "false":
                p++;
                return new Node(t.kind, t);
            case "name":
                p++;
                if (!is("(")) {
                    return new Node("name", t);
                }
                p++;
                node = new Node("call", t);
                node.depth = depth;
                if (!is(")")) {
                    do {
                        node.parts.add(parseE(depth + 1, 0));
                    } while (is(",") && need(",") != null);
                }
                need(")");
                return node;
            case "base":
                p++;
                node = new Node("cast", need("("));
                node.first = t.at;
                node.other = t;
                node.parts.add(parseE(depth + 1, 0));
                need(")");
                return node;
            case "(":
                p++;
                node = new Node("paren", t);
                node.parts.add(parseE(depth + 1, 0));
                need(")");
                return node;
            case "[":
                p++;
                node = new Node("row", t);
                do {
                    node.parts.add(parseE(depth + 1, 0));
                } while (is(",") && need(",") != null);
                need("]");
                return node;
            default:
                throw new Fault(2, t.at);
        }
    }

    // ---- meaning

    private static final class Var {
        Val val;
        boolean loop;
    }

    private static final class Scope {
        final Map<String, Var> vars = new HashMap<>();
        final List<String> order = new ArrayList<>();
        int fn;
        int depth;
    }

    /** Does it all with these inputs; what is told stands in 'told' then. */
    void perform(long[][] inputsGiven) {
        given = inputsGiven;
        cost = 0;
        ifs = 0;
        inFn = 0;
        told.clear();
        widths.clear();
        for (int i = 0; i < 3; i++) {
            widths.add(new ArrayList<>());
        }
        headers();
        Scope scope = new Scope();
        scope.fn = fns.size();
        for (Input input : inputs) {
            int party = input.party.kind.equals("alice") ? 0 : 1;
            Type type = typeOf(input.type);
            if (scope.vars.containsKey(input.name.text)) {
                throw new Fault(3, input.name.at);
            }
            Val val = new Val(type, new BigInteger[Math.max(1, type.n)]);
            List<Integer> list = widths.get(party);
            if (list.size() + val.x.length > 256 || sum(list) + type.all() > 1000) {
                throw new Fault(6, input.name.at);
            }
            for (int k = 0; k < val.x.length; k++) {
                val.x[k] = type.wrap(BigInteger.valueOf(given[party][list.size()]));
                list.add(type.bits);
            }
            bind(scope, input.name.text, val, false);
        }
        for (Node s : main) {
            doS(s, scope, true);
        }
    }

    private static int sum(List<Integer> list) {
        int sum = 0;
        for (int x : list) {
            sum += x;
        }
        return sum;
    }

    private Type typeOf(TypeText text) {
        String word = text.base.text;
        Type base = word.equals("bool") ? BOOL
            : new Type(word.charAt(0), Integer.parseInt(word.substring(1)), 0);
        if (text.number == null) {
            return base;
        }
        long n = Long.parseLong(text.number.text);
        if (n < 1 || n > 32) {
            throw new Fault(4, text.number.at);
        }
        return new Type(base.base, base.bits, (int) n);
    }

    private void headers() {
        for (int i = 0; i < fns.size(); i++) {
            Fn fn = fns.get(i);
            fn.known.clear();
            for (int j = 0; j < i; j++) {
                if (fns.get(j).name.text.equals(fn.name.text)) {
                    throw new Fault(3, fn.name.at);
                }
            }
            for (int k = 0; k < fn.names.size(); k++) {
                for (int j = 0; j < k; j++) {
                    if (fn.names.get(j).text.equals(fn.names.get(k).text)) {
                        throw new Fault(3, fn.names.get(k).at);
                    }
                }
                fn.known.add(typeOf(fn.types.get(k)));
            }
            fn.told = typeOf(fn.result);
        }
    }

    private void pay(int amount, int at) {
        cost += amount;
        if (cost > 3000) {
            throw new Fault(6, at);
        }
    }

    private static void bind(Scope scope, String name, Val val, boolean loop) {
        Var v = new Var();
        v.val = val;
        v.loop = loop;
        scope.vars.put(name, v);
        scope.order.add(name);
    }

    private static void unwind(Scope scope, int size) {
        while (scope.order.size() > size) {
            scope.vars.remove(scope.order.remove(scope.order.size() - 1));
        }
    }

    /** 'so' tells whether all ifs around are so. */
    private void doAll(Node block, Scope scope, boolean so) {
        int size = scope.order.size();
        for (Node s : block.parts) {
            doS(s, scope, so);
        }
        unwind(scope, size);
    }

    private void doS(Node s, Scope scope, boolean so) {
        pay(1, s.token.at);
        switch (s.what) {
            case "let": {
                Val val = settled(doE(s.parts.get(0), scope, so), I32);
                if (scope.vars.containsKey(s.other.text)) {
                    throw new Fault(3, s.other.at);
                }
                bind(scope, s.other.text, val, false);
                break;
            }
            case "output": {
                if (ifs > 0 || inFn > 0) {
                    throw new Fault(4, s.token.at);
                }
                Val val = settled(doE(s.parts.get(0), scope, so), I32);
                List<Integer> list = widths.get(2);
                if (list.size() + val.x.length > 256 || sum(list) + val.type.all() > 1000) {
                    throw new Fault(6, s.token.at);
                }
                for (BigInteger x : val.x) {
                    list.add(val.type.bits);
                    told.add(x.mod(BigInteger.TWO.pow(val.type.bits)).longValue());
                }
                break;
            }
            case "if": {
                Val val = settled(doE(s.parts.get(0), scope, so), I32);
                if (!val.type.equals(BOOL)) {
                    throw new Fault(4, s.parts.get(0).first);
                }
                boolean test = val.x[0].signum() != 0;
                ifs++;
                doAll(s.parts.get(1), scope, so && test);
                if (s.parts.size() > 2) {
                    doAll(s.parts.get(2), scope, so && !test);
                }
                ifs--;
                break;
            }
            case "for":
                doFor(s, scope, so);
                break;
            default:
                doAssign(s, scope, so);
                break;
        }
    }

    private void doFor(Node s, Scope scope, boolean so) {
        if (scope.vars.containsKey(s.other.text)) {
            throw new Fault(3, s.other.at);
        }
        long from = Long.parseLong(s.parts.get(0).token.text);
        long to = Long.parseLong(s.parts.get(1).token.text);
        if (to - from > 256) {
            throw new Fault(4, s.other.at);
        }
        for (long k = from; k < to; k++) {
            pay(1, s.other.at);
            int size = scope.order.size();
            bind(scope, s.other.text, new Val(null, BigInteger.valueOf(k)), true);
            doAll(s.parts.get(2), scope, so);
            unwind(scope, size);
        }
    }

    private void doAssign(Node s, Scope scope, boolean so) {
        Var v = scope.vars.get(s.token.text);
        if (v == null) {
            throw new Fault(3, s.token.at);
        }
        if (v.loop) {
            throw new Fault(4, s.token.at);
        }
        Type type = v.val.type;
        Node right = s.parts.get(s.parts.size() - 1);
        Val fresh;
        if (s.other != null) {
            if (type.n == 0) {
                throw new Fault(4, s.other.at);
            }
            Val index = doIndex(s.parts.get(0), scope, so);
            Val val = wanted(doE(right, scope, so), type.element(), right.first);
            pay(index.loose() ? type.all() : type.n * (type.bits + index.type.bits), s.other.at);
            fresh = new Val(type, v.val.x.clone());
            if (index.x[0].signum() >= 0 && index.x[0].compareTo(BigInteger.valueOf(type.n)) < 0) {
                fresh.x[index.x[0].intValue()] = val.x[0];
            }
        } else {
            fresh = wanted(doE(right, scope, so), type, right.first);
        }
        if (ifs > 0) {
            pay(type.all(), s.token.at);
        }
        if (so) {
            v.val = fresh;
        }
    }

    private Val settled(Val val, Type type) {
        if (!val.loose()) {
            return val;
        }
        if (!type.has(val.x[0])) {
            throw new Fault(5, val.at);
        }
        pay(type.bits, val.at);
        return new Val(type, val.x[0]);
    }

    private Val wanted(Val val, Type type, int first) {
        Val done = settled(val, type);
        if (!done.type.equals(type)) {
            throw new Fault(4, first);
        }
        return done;
    }

    private Val doIndex(Node e, Scope scope, boolean so) {
        Val index = doE(e, scope, so);
        if (index.loose()) {
            if (!I32.has(index.x[0])) {
                throw new Fault(5, index.at);
            }
        } else if (!index.type.number()) {
            throw new Fault(4, e.first);
        }
        return index;
    }

    private Val doE(Node e, Scope scope, boolean so) {
        int at = e.token.at;
        switch (e.what) {
            case "number": {
                Val val = new Val(null, new BigInteger(e.token.text));
                val.at = at;
                return val;
            }
            case "true":
                return new Val(BOOL, BigInteger.ONE);
            case "false":
                return new Val(BOOL, BigInteger.ZERO);
            case "name": {
                Var v = scope.vars.get(e.token.text);
                if (v == null) {
                    throw new Fault(3, at);
                }
                Val val = new Val(v.val.type, v.val.x);
                val.at = at;
                return val;
            }
            case "paren":
                return doE(e.parts.get(0), scope, so);
            case "call":
                return doCall(e, scope, so);
            case "cast":
                return doCast(e, scope, so);
            case "row":
                return doRow(e, scope, so);
            case "ahead":
                return doAhead(e, scope, so);
            case "index": {
                Val row = doE(e.parts.get(0), scope, so);
                if (row.loose() || row.type.n == 0) {
                    throw new Fault(4, at);
                }
                Val index = doIndex(e.parts.get(1), scope, so);
                Type t = row.type;
                pay(index.loose() ? t.bits : t.n * (t.bits + index.type.bits), at);
                boolean there = index.x[0].signum() >= 0
                    && index.x[0].compareTo(BigInteger.valueOf(t.n)) < 0;
                return new Val(t.element(), there ? row.x[index.x[0].intValue()] : BigInteger.ZERO);
            }
            default:
                return doSign(e, doE(e.parts.get(0), scope, so), doE(e.parts.get(1), scope, so));
        }
    }

    private Val doCall(Node e, Scope scope, boolean so) {
        Fn fn = null;
        int number = 0;
        for (int i = 0; i < scope.fn; i++) {
            if (fns.get(i).name.text.equals(e.token.text)) {
                fn = fns.get(i);
                number = i;
            }
        }
        if (fn == null) {
            throw new Fault(3, e.token.at);
        }
        if (fn.names.size() != e.parts.size()) {
            throw new Fault(4, e.token.at);
        }
        int depth = scope.depth + e.depth;
        if (depth > 20) {
            throw new Fault(6, e.token.at);
        }
        pay(1 + e.parts.size(), e.token.at);
        Scope inner = new Scope();
        inner.fn = number;
        inner.depth = depth;
        for (int k = 0; k < e.parts.size(); k++) {
            Node part = e.parts.get(k);
            Val val = wanted(doE(part, scope, so), fn.known.get(k), part.first);
            bind(inner, fn.names.get(k).text, val, false);
        }
        inFn++;
        for (Node s : fn.body) {
            doS(s, inner, so);
        }
        Val back = wanted(doE(fn.back, inner, so), fn.told, fn.back.first);
        inFn--;
        return back;
    }

    private Val doCast(Node e, Scope scope, boolean so) {
        Val val = settled(doE(e.parts.get(0), scope, so), I32);
        Type type = typeOf(new TypeText(e.other, null));
        if (val.type.n > 0) {
            throw new Fault(4, e.token.at);
        }
        pay(type.bits + val.type.bits, e.token.at);
        if (type.equals(BOOL)) {
            return truth(val.x[0].signum() != 0);
        }
        return new Val(type, type.wrap(val.x[0]));
    }

    private Val doRow(Node e, Scope scope, boolean so) {
        List<Val> vals = new ArrayList<>();
        Type type = null;
        for (Node part : e.parts) {
            Val val = doE(part, scope, so);
            vals.add(val);
            type = type == null ? val.type : type;
        }
        type = type == null ? I32 : type;
        boolean alike = vals.size() <= 32 && type.n == 0;
        BigInteger[] x = new BigInteger[vals.size()];
        for (int k = 0; k < x.length; k++) {
            Val val = settled(vals.get(k), type);
            alike &= val.type.equals(type);
            x[k] = val.x[0];
        }
        if (!alike) {
            throw new Fault(4, e.token.at);
        }
        pay(type.bits * x.length, e.token.at);
        return new Val(new Type(type.base, type.bits, x.length), x);
    }

    private Val doAhead(Node e, Scope scope, boolean so) {
        Val val = doE(e.parts.get(0), scope, so);
        int at = e.token.at;
        if (e.token.text.equals("-")) {
            if (val.loose()) {
                Val minus = new Val(null, val.x[0].negate());
                minus.at = at;
                return minus;
            }
            if (!val.type.number()) {
                throw new Fault(4, at);
            }
            pay(val.type.bits, at);
            return new Val(val.type, val.type.wrap(val.x[0].negate()));
        }
        val = settled(val, I32);
        if (e.token.text.equals("!")) {
            if (!val.type.equals(BOOL)) {
                throw new Fault(4, at);
            }
            pay(1, at);
            return truth(val.x[0].signum() == 0);
        }
        if (val.type.n > 0) {
            throw new Fault(4, at);
        }
        pay(val.type.bits, at);
        return new Val(val.type, val.type.wrap(val.x[0].not()));
    }

    private static Val truth(boolean so) {
        return new Val(BOOL, so ? BigInteger.ONE : BigInteger.ZERO);
    }

    private Val doSign(Node e, Val left, Val right) {
        String sign = e.token.text;
        int at = e.token.at;
        if (sign.equals("<<") || sign.equals(">>")) {
            return doShift(sign, at, left, right);
        }
        Type type = !left.loose() ? left.type : !right.loose() ? right.type : I32;
        Val a = settled(left, type);
        Val b = settled(right, type);
        boolean good = a.type.equals(b.type) && type.n == 0;
        if (sign.equals("&&") || sign.equals("||")) {
            good &= type.equals(BOOL);
        } else if (!List.of("&", "|", "^", "==", "!=").contains(sign)) {
            good &= type.number();
        }
        if (!good) {
            throw new Fault(4, at);
        }
        int w = type.bits;
        pay(sign.equals("*") ? w * w : sign.equals("/") || sign.equals("%") ? 2 * w * w : w, at);
        BigInteger x = a.x[0];
        BigInteger y = b.x[0];
        switch (sign) {
            case "+":
                return new Val(type, type.wrap(x.add(y)));
            case "-":
                return new Val(type, type.wrap(x.subtract(y)));
            case "*":
                return new Val(type, type.wrap(x.multiply(y)));
            case "/":
                return new Val(type, type.wrap(y.signum() == 0 ? BigInteger.ONE.negate()
                    : x.divide(y)));
            case "%":
                return new Val(type, type.wrap(y.signum() == 0 ? x : x.remainder(y)));
            case "&":
            case "&&":
                return new Val(type, x.and(y));
            case "|":
            case "||":
                return new Val(type, x.or(y));
            case "^":
                return new Val(type, x.xor(y));
            case "==":
                return truth(x.equals(y));
            case "!=":
                return truth(!x.equals(y));
            case "<":
                return truth(x.compareTo(y) < 0);
            case "<=":
                return truth(x.compareTo(y) <= 0);
            case ">":
                return truth(x.compareTo(y) > 0);
            default:
                return truth(x.compareTo(y) >= 0);
        }
    }

    private Val doShift(String sign, int at, Val left, Val right) {
        Val a = settled(left, I32);
        boolean good = a.type.number() && (right.loose() ? right.x[0].signum() >= 0
            : right.type.number() && right.type.base == 'u');
        if (!good) {
            throw new Fault(4, at);
        }
        pay(right.loose() ? a.type.bits : a.type.bits * right.type.bits, at);
        int by = right.x[0].min(BigInteger.valueOf(100)).intValue();
        BigInteger x = sign.equals("<<") ? a.x[0].shiftLeft(by) : a.x[0].shiftRight(by);
        return new Val(a.type, a.type.wrap(x));
    }
}
