/** Promises 1 (a new object), 2 (feed), 3 (end) and what compile and circuit do to the tape. */
public final class TapeTest {
    public static void main(String[] args) {
        newObject();
        feedHasRoomFor4000();
        bytesComeHighestFirst();
        endCutsTheTape();
        tapeIsEmptyBehindEachTurn();
        only24Count();
        Kit.finish();
    }

    private static void newObject() {
        SecretHouse house = new SecretHouse();
        for (int what = -2; what <= 8; what++) {
            Kit.due("count of a new object", house.count(what), SecretHouse.NONE);
        }
        Kit.due("place of a new object", house.place(), SecretHouse.NONE);
        Kit.due("run of a new object", house.run(), false);
        Kit.due("value of a new object throws", Kit.valueThrows(house, 0), true);
        Kit.due("bits of a new object throws", Kit.bitsThrows(house, 0, 0), true);
        Kit.due("give of a new object throws", Kit.giveThrows(house, 0, 0), true);
        Kit.due("end(1) of an empty tape", house.end(1), false);
        Kit.due("end(0) of an empty tape", house.end(0), true);
        Kit.due("an empty program", house.compile(), 0);
        Kit.due("its elements", house.count(0) + house.count(1) + house.count(2), 0);
        Kit.due("its run", house.run(), true);
        Kit.due("its value throws", Kit.valueThrows(house, 0), true);
        Kit.due("an empty circuit", house.circuit(), 2);
        Kit.due("its place", house.place(), 0);
    }

    private static void feedHasRoomFor4000() {
        SecretHouse house = new SecretHouse();
        int blank = 0x20202020;
        for (int n = 0; n < 200; n++) {
            Kit.due("feed " + n, house.feed(blank, blank, blank, blank, blank), true);
        }
        Kit.due("feed beyond 4000", house.feed(blank, blank, blank, blank, blank), false);
        Kit.due("end(4001)", house.end(4001), false);
        Kit.due("end(4000)", house.end(4000), true);
        Kit.due("end(3981)", house.end(3981), true);
        Kit.due("feed to 4001", house.feed(blank, blank, blank, blank, blank), false);
        Kit.due("end(3980)", house.end(3980), true);
        Kit.due("feed to 4000", house.feed(blank, blank, blank, blank, 0x20202021), true);
        Kit.due("a '!' at the end", house.compile(), 2);
        Kit.due("the text's end", house.place(), 3999);
    }

    private static void bytesComeHighestFirst() {
        SecretHouse house = new SecretHouse();
        house.feed(0x6F757470, 0x75742074, 0x7275653B, 0x20202020, 0x202020FF);
        Kit.due("a byte 255", house.compile(), 1);
        Kit.due("its place", house.place(), 19);
        house.feed(0x6F757470, 0x75742074, 0x7275653B, 0x20202020, 0x20202020);
        Kit.due("output true;", house.compile(), 0);
        Kit.due("its bits", house.count(3), 1);
    }

    private static void endCutsTheTape() {
        SecretHouse house = new SecretHouse();
        Kit.feed(house, "output true; output false; ~");
        Kit.due("end below 0", house.end(-1), false);
        Kit.due("the least end", house.end(Integer.MIN_VALUE), false);
        Kit.due("end beyond", house.end(29), false);
        Kit.due("end", house.end(12), true);
        Kit.due("end of what is cut", house.end(13), false);
        house.feed(0x6F757470, 0x75742074, 0x7275653B, 0x20202020, 0x20202020);
        Kit.due("what is fed behind the cut", house.compile(), 0);
        Kit.due("two outputs", house.count(2), 2);
    }

    private static void tapeIsEmptyBehindEachTurn() {
        SecretHouse house = new SecretHouse();
        Kit.feed(house, "output true;");
        Kit.due("compile", house.compile(), 0);
        Kit.due("empty behind compile", house.end(1), false);
        Kit.feed(house, "output");
        Kit.due("faulty compile", house.compile(), 2);
        Kit.due("empty behind a fault", house.end(1), false);
        Kit.feed(house, "1 2");
        Kit.due("faulty circuit", house.circuit(), 2);
        Kit.due("empty behind circuit", house.end(1), false);
    }

    private static void only24Count() {
        SecretHouse house = new SecretHouse();
        for (int n = 0; n < 22; n++) {
            Kit.due("turn " + n, n % 2 == 0 ? house.compile() : house.circuit(), n % 2 == 0 ? 0 : 2);
        }
        Kit.feed(house, "output 7;");
        Kit.due("turn 22", house.compile(), 0);
        Kit.feed(house, "alice a u8; output a + 1;");
        Kit.due("turn 23", house.compile(), 0);
        house.give(0, 0, 0, 5);
        Kit.due("run", house.run(), true);
        Kit.feed(house, "output x;");
        Kit.due("the 25th compile", house.compile(), SecretHouse.NONE);
        Kit.due("the 25th circuit", house.circuit(), SecretHouse.NONE);
        Kit.due("the tape stays", house.end(9), true);
        Kit.due("the place stays", house.place(), SecretHouse.NONE);
        Kit.due("the program stays", house.count(0), 1);
        Kit.due("its value stays", house.value(0), 6);
        Kit.due("it runs", house.run(), true);
        SecretHouse other = new SecretHouse();
        for (int n = 0; n < 24; n++) {
            Kit.feed(other, "output x;");
            Kit.due("fault " + n, other.compile(), 3);
        }
        Kit.due("the 25th behind a fault", other.compile(), SecretHouse.NONE);
        Kit.due("the fault's place stays", other.place(), 7);
    }
}
