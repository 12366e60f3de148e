/** The boundary cases of promises 1 to 6: a new object, feed, end, compile, circuit and place. */
public final class EdgeTapeTest {
    private static final int BLANK = 0x20202020;
    private static final String CIRCUIT = "1 3\n2 1 1\n1 1\n\n2 1 0 1 2 AND\n";
    /** A text of each FAULT's kind, and where the FAULT is. */
    private static final String[] FAULTS = {"", "output $;", "output ;", "output x;", "output -true;",
        "output 9999999999;", "alice a u64; output a * a;"};
    private static final int[] PLACES = {-1, 7, 7, 7, 7, 7, 22};

    public static void main(String[] args) {
        aNewObjectHasNothing();
        aNewTapeIsEmpty();
        feedFillsTheTape();
        feedIsRefusedJustBeyond4000();
        aRefusedFeedChangesNothing();
        eachFedByteHasItsPlace();
        endAtItsBounds();
        aRefusedEndChangesNothing();
        textsOf4000Bytes();
        theTapeIsEmptyThen();
        aFaultLeavesNone();
        theLatestTextIsTheOneNow();
        the24thCountsAndThe25thNot();
        turnsBeyondChangeNothing();
        placeIsOfTheLatest();
        all512Calls();
        Kit.finish();
    }

    private static boolean feedBlanks(SecretHouse house) {
        return house.feed(BLANK, BLANK, BLANK, BLANK, BLANK);
    }

    /** A tape of so many bytes, blank but for a '$' at its end. */
    private static SecretHouse tapeOf(int length) {
        SecretHouse house = new SecretHouse();
        Kit.feed(house, Kit.times(" ", length - 1) + (length > 0 ? "$" : ""));
        return house;
    }

    private static void nothingIsThere(String when, SecretHouse house) {
        for (int what = -1; what <= 7; what++) {
            Kit.due("count(" + what + ") " + when, house.count(what), SecretHouse.NONE);
            Kit.due("bits(" + what + ", 0) throws " + when, Kit.bitsThrows(house, what, 0), true);
            Kit.due("give(" + what + ", 0) throws " + when, Kit.giveThrows(house, what, 0), true);
        }
        Kit.due("run " + when, house.run(), false);
        Kit.due("value throws " + when, Kit.valueThrows(house, 0), true);
    }

    private static void aNewObjectHasNothing() {
        SecretHouse house = new SecretHouse();
        nothingIsThere("of a new object", house);
        Kit.due("place of a new object", house.place(), SecretHouse.NONE);
        house.coins(0, 1, 2);
        house.coins(1, 1, 2);
        Kit.due("run behind coins", house.run(), false);
        nothingIsThere("behind a refused run", house);
        Kit.due("a new object is like no other", new SecretHouse().place(), SecretHouse.NONE);
    }

    private static void aNewTapeIsEmpty() {
        SecretHouse house = new SecretHouse();
        Kit.due("end(1) of an empty tape", house.end(1), false);
        Kit.due("end(0) of an empty tape", house.end(0), true);
        Kit.due("end(-1) of an empty tape", house.end(-1), false);
        Kit.due("an empty program", house.compile(), 0);
        Kit.due("its place", house.place(), SecretHouse.NONE);
        for (int what = 0; what < 4; what++) {
            Kit.due("count(" + what + ") of an empty program", house.count(what), 0);
        }
        Kit.due("its run", house.run(), true);
        Kit.due("its value throws", Kit.valueThrows(house, 0), true);
        Kit.due("an empty circuit", house.circuit(), 2);
        Kit.due("its place", house.place(), 0);
        nothingIsThere("behind an empty circuit", house);
    }

    private static void feedFillsTheTape() {
        SecretHouse house = new SecretHouse();
        for (int n = 1; n <= 200; n++) {
            Kit.due("feed to " + 20 * n, feedBlanks(house), true);
            Kit.due("end at " + 20 * n, house.end(20 * n), true);
            Kit.due("end beyond " + 20 * n, house.end(20 * n + 1), false);
        }
        Kit.due("feed to 4020", feedBlanks(house), false);
    }

    private static void feedIsRefusedJustBeyond4000() {
        for (int length = 3955; length <= 4000; length++) {
            SecretHouse house = tapeOf(length);
            boolean fits = length + 20 <= 4000;
            Kit.due("feed behind " + length, feedBlanks(house), fits);
            int now = fits ? length + 20 : length;
            Kit.due("the tape has " + now, house.end(now), true);
            Kit.due("and not more than " + now, house.end(now + 1), false);
        }
    }

    private static void aRefusedFeedChangesNothing() {
        for (int length = 3981; length <= 4000; length++) {
            SecretHouse house = tapeOf(length);
            Kit.due("feed behind " + length, house.feed(0x3F3F3F3F, 0, 0, 0, 0), false);
            Kit.due("kind of what stays", house.compile(), 1);
            Kit.due("place of what stays", house.place(), length - 1);
        }
    }

    private static void eachFedByteHasItsPlace() {
        int[] bytes = {0x24, 0x7F, 0x80, 0xFF, 0x00};
        for (int wrong : bytes) {
            for (int at = 0; at < 20; at++) {
                int[] numbers = {BLANK, BLANK, BLANK, BLANK, BLANK};
                int shift = 24 - 8 * (at % 4);
                numbers[at / 4] = BLANK & ~(255 << shift) | wrong << shift;
                SecretHouse house = new SecretHouse();
                feedBlanks(house);
                house.feed(numbers[0], numbers[1], numbers[2], numbers[3], numbers[4]);
                Kit.due("kind of byte " + wrong, house.compile(), 1);
                Kit.due("place of byte " + wrong, house.place(), 20 + at);
            }
        }
    }

    private static void endAtItsBounds() {
        int[] lengths = {0, 1, 19, 20, 21, 40, 3999, 4000};
        for (int length : lengths) {
            int[] wrong = {-1, Integer.MIN_VALUE, length + 1, 4001, Integer.MAX_VALUE};
            SecretHouse house = tapeOf(length);
            for (int n : wrong) {
                Kit.due("end(" + n + ") of " + length, house.end(n), false);
            }
            Kit.due("end(" + length + ")", house.end(length), true);
            Kit.due("and again", house.end(length), true);
            if (length > 0) {
                Kit.due("end(" + (length - 1) + ")", house.end(length - 1), true);
                Kit.due("what is cut is gone", house.end(length), false);
            }
            Kit.due("end(0)", house.end(0), true);
            Kit.due("end(1) of an emptied tape", house.end(1), false);
        }
    }

    private static void aRefusedEndChangesNothing() {
        SecretHouse house = new SecretHouse();
        Kit.feed(house, "output true; $");
        Kit.due("end(-1)", house.end(-1), false);
        Kit.due("end(15)", house.end(15), false);
        Kit.due("the tape is as it was", house.compile(), 1);
        Kit.due("to its last byte", house.place(), 13);
        Kit.feed(house, "output true; $");
        Kit.due("end(13)", house.end(13), true);
        Kit.due("what is cut does not count", house.compile(), 0);
        Kit.feed(house, "output true; $");
        Kit.due("end(11)", house.end(11), true);
        Kit.due("what is cut does not count", house.compile(), 2);
        Kit.due("the text's end is the cut", house.place(), 11);
        Kit.feed(house, "output true; $");
        Kit.due("end(0)", house.end(0), true);
        Kit.due("nothing is left", house.compile(), 0);
        Kit.due("not even an output", house.count(2), 0);
    }

    private static void textsOf4000Bytes() {
        for (int length = 3999; length <= 4000; length++) {
            String text = "output 7" + Kit.times(" ", length - 9) + ";";
            Kit.tells(text, 7);
            Kit.fault(2, text.substring(0, length - 1) + "@,");
            Kit.fault(2, text.substring(0, length - 1) + " @");
            Kit.fault(1, text.substring(0, length - 1) + "@$");
            Kit.tells(Kit.times("#", length), new long[0]);
            String circuit = CIRCUIT + Kit.times("\n", length - CIRCUIT.length());
            Kit.circuitFault(CIRCUIT + "@" + circuit.substring(CIRCUIT.length()));
        }
        StringBuilder chain = new StringBuilder("248 250\n2 1 1\n1 1\n\n");
        for (int n = 0; n < 248; n++) {
            chain.append("2 1 ").append(n + 1).append(" 0 ").append(n + 2).append(" XOR\n");
        }
        int over = chain.length() - 4000;
        Kit.due("a circuit of 248 gates is over 4000 bytes by " + over, over > 0, true);
        SecretHouse house = new SecretHouse();
        byte[] bytes = chain.toString().getBytes(java.nio.charset.StandardCharsets.ISO_8859_1);
        for (int at = 0; at < 4000; at += 20) {
            house.feed(Kit.numberAt(bytes, at), Kit.numberAt(bytes, at + 4), Kit.numberAt(bytes, at + 8),
                Kit.numberAt(bytes, at + 12), Kit.numberAt(bytes, at + 16));
        }
        Kit.due("a circuit cut at 4000", house.circuit(), 2);
        Kit.due("its end", house.place(), 4000);
    }

    private static void theTapeIsEmptyThen() {
        String[] texts = {"output true;", FAULTS[1], FAULTS[2], FAULTS[3], FAULTS[4], FAULTS[5], FAULTS[6]};
        for (String text : texts) {
            SecretHouse house = new SecretHouse();
            Kit.feed(house, text);
            house.compile();
            Kit.due("end(1) behind compile of " + text, house.end(1), false);
            Kit.due("compile of an empty tape behind " + text, house.compile(), 0);
            Kit.due("its outputs", house.count(2), 0);
            Kit.feed(house, text);
            Kit.due("circuit of a program", house.circuit(), 2);
            Kit.due("end(1) behind circuit of " + text, house.end(1), false);
        }
        SecretHouse house = Kit.circuit(CIRCUIT);
        Kit.due("end(1) behind a circuit", house.end(1), false);
        Kit.due("end(0) behind a circuit", house.end(0), true);
        Kit.due("circuit of an empty tape", house.circuit(), 2);
        Kit.due("its place", house.place(), 0);
    }

    private static void aFaultLeavesNone() {
        for (int kind = 1; kind <= 6; kind++) {
            SecretHouse house = Kit.compiled("alice a u8; bob b u8; output a + b;");
            Kit.due("run", house.run(), true);
            Kit.feed(house, FAULTS[kind]);
            Kit.due("kind " + kind, house.compile(), kind);
            Kit.due("place of kind " + kind, house.place(), PLACES[kind]);
            nothingIsThere("behind kind " + kind, house);
            house = Kit.circuit(CIRCUIT);
            Kit.due("run", house.run(), true);
            Kit.feed(house, FAULTS[kind]);
            Kit.due("kind " + kind, house.compile(), kind);
            nothingIsThere("behind a circuit and kind " + kind, house);
        }
        String[] before = {"output 1;", ""};
        for (String text : before) {
            SecretHouse house = Kit.compiled(text);
            Kit.due("run", house.run(), true);
            Kit.feed(house, CIRCUIT + "2");
            Kit.due("a circuit's FAULT", house.circuit(), 2);
            Kit.due("its place", house.place(), CIRCUIT.length());
            nothingIsThere("behind a circuit's FAULT", house);
        }
    }

    private static void theLatestTextIsTheOneNow() {
        SecretHouse house = Kit.compiled("alice a u8; output a; output a;");
        Kit.feed(house, CIRCUIT);
        Kit.due("circuit", house.circuit(), 0);
        Kit.due("outputs of the circuit", house.count(2), 1);
        Kit.due("its gates", house.count(5), 1);
        Kit.feed(house, "alice a u8; output a; output a;");
        Kit.due("a text that is not compiled yet", house.count(5), 1);
        Kit.due("compile", house.compile(), 0);
        Kit.due("outputs of the program", house.count(2), 2);
        Kit.due("a program has no gates", house.count(5), SecretHouse.NONE);
        Kit.feed(house, CIRCUIT);
        Kit.due("a circuit is no program", house.compile(), 2);
        Kit.due("from its first word on", house.place(), 0);
    }

    /** Turns are made of compile() (bit 0) and circuit() (bit 1), good and bad. */
    private static void the24thCountsAndThe25thNot() {
        for (int way = 0; way < 8; way++) {
            SecretHouse house = new SecretHouse();
            for (int turn = 1; turn <= 26; turn++) {
                boolean circuit = way % 4 == 1 || (way % 4 == 2 && turn % 2 == 0) || (way % 4 == 3 && turn > 12);
                boolean bad = way >= 4;
                Kit.feed(house, bad ? "$" : circuit ? CIRCUIT : "output 3;");
                int got = circuit ? house.circuit() : house.compile();
                int want = turn > 24 ? SecretHouse.NONE : !bad ? 0 : circuit ? 2 : 1;
                Kit.due("turn " + turn + " of way " + way, got, want);
                Kit.due("the tape is empty then, or as it was", house.end(1), turn > 24);
                house.end(0);
            }
        }
    }

    private static void turnsBeyondChangeNothing() {
        String[] last = {"alice a u8; output a + 1;", "1 4\n2 2 1\n1 1\n\n2 1 0 1 3 XOR\n", "output x;"};
        for (int way = 0; way < 3; way++) {
            SecretHouse house = new SecretHouse();
            for (int turn = 1; turn < 24; turn++) {
                Kit.due("turn " + turn, house.compile(), 0);
            }
            Kit.feed(house, last[way]);
            Kit.due("turn 24", way == 1 ? house.circuit() : house.compile(), way == 2 ? 3 : 0);
            if (way < 2) {
                house.give(0, 0, 0, 3);
                Kit.due("run", house.run(), true);
                house.give(0, 0, 0, 2);
            }
            for (int more = 0; more < 4; more++) {
                Kit.feed(house, more % 2 == 0 ? "output true; $" : CIRCUIT);
                Kit.due("compile beyond", house.compile(), SecretHouse.NONE);
                Kit.due("circuit beyond", house.circuit(), SecretHouse.NONE);
                Kit.due("the tape stays", house.end(more % 2 == 0 ? 14 : CIRCUIT.length()), true);
                Kit.due("and has no more", house.end(more % 2 == 0 ? 15 : CIRCUIT.length() + 1), false);
                house.end(0);
            }
            Kit.due("the place stays", house.place(), way == 2 ? 7 : SecretHouse.NONE);
            if (way == 2) {
                nothingIsThere("beyond", house);
                continue;
            }
            Kit.due("the ELEMENTS stay", house.count(0), 1);
            Kit.due("the sort stays", house.count(5), way == 1 ? 1 : SecretHouse.NONE);
            Kit.due("the value stays", house.value(0), way == 1 ? 0 : 4);
            Kit.due("it runs", house.run(), true);
            Kit.due("with what was given", house.value(0), way == 1 ? 1 : 3);
        }
    }

    private static void placeIsOfTheLatest() {
        SecretHouse house = new SecretHouse();
        int[] kinds = {3, 0, 6, 1, 0, 5, 2, 4, 0};
        for (int kind : kinds) {
            int before = house.place();
            Kit.feed(house, FAULTS[kind]);
            Kit.due("feed and end do not change place", house.place(), before);
            Kit.due("kind", house.compile(), kind);
            Kit.due("place of kind " + kind, house.place(), PLACES[kind]);
            house.feed(1, 2, 3, 4, 5);
            house.end(0);
            house.count(0);
            house.coins(0, 0, 0);
            house.run();
            Kit.due("place of kind " + kind + " later", house.place(), PLACES[kind]);
        }
        Kit.feed(house, "1 3\n2 1 1\n1 1\n\n2 1 0 1 2 NAND\n");
        Kit.due("circuit", house.circuit(), 2);
        Kit.due("its place", house.place(), 25);
        Kit.feed(house, CIRCUIT);
        Kit.due("circuit", house.circuit(), 0);
        Kit.due("its place", house.place(), SecretHouse.NONE);
        Kit.due("an empty circuit", house.circuit(), 2);
        Kit.due("a place 0 is a place", house.place(), 0);
    }

    /** Each counted call answers as the first ones do, to the 512th. */
    private static void all512Calls() {
        SecretHouse house = new SecretHouse();
        house.feed(0x616C6963, 0x65206120, 0x75383B20, 0x6F757470, 0x75742061);
        house.feed(0x202A2061, 0x3B202020, BLANK, BLANK, BLANK);
        Kit.due("call 3", house.compile(), 0);
        for (int call = 4; call <= 510; call += 3) {
            house.give(0, 0, 0, call);
            Kit.due("call " + (call + 1), house.run(), true);
            Kit.due("call " + (call + 2), house.value(0), call * call & 255);
        }
    }
}
