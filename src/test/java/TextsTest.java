/** Promises 29 to 31: the tape and its texts. */
final class TextsTest {
    private static final Due due = new Due();

    public static void main(String[] args) {
        feed();
        wipe();
        items();
        tokens();
        faults();
        ninth();
        due.end();
    }

    private static void feed() {
        FogLots x = new FogLots();
        due.is("29 feed n 0", x.feed(0, 0), Due.BEYOND);
        due.is("29 feed n 5", x.feed(0, 5), Due.BEYOND);
        due.is("29 feed n -1", x.feed(0, -1), Due.BEYOND);
        // "mist", "10" with a byte above them that isn't taken.
        due.is("29 feed mist", x.feed(0x6d697374, 4), 4);
        due.is("29 feed 10", x.feed(0x7f7f3130, 2), 6);
        due.is("29 text()", x.text(), 1);
        due.is("29 mist", x.mist(5), 10);
        for (int i = 1; i <= 29; i++) {
            due.is("29 feed", x.feed(-1, 4), 4 * i);
        }
        due.is("29 feed", x.feed(-1, 3), 119);
        due.is("29 feed full", x.feed(-1, 2), Due.FULL);
        due.is("29 feed n before full", x.feed(-1, 5), Due.BEYOND);
        due.is("29 feed full took nothing", x.count(5), 119);
        due.is("29 feed the last", x.feed(-1, 1), 120);
        due.is("29 feed full", x.feed(-1, 1), Due.FULL);
        due.is("29 status(1)", x.status(1), 2);
    }

    private static void wipe() {
        FogLots x = new FogLots();
        due.is("30 wipe()", x.wipe(), 0);
        Due.feed(x, "lot");
        due.is("30 wipe()", x.wipe(), 3);
        due.is("30 count(5)", x.count(5), 0);
        due.is("30 wipe()", x.wipe(), 0);
    }

    private static void items() {
        FogLots x = new FogLots();
        String[] words = {"person", "cottager", "surveyor", "mayor", "member", "doubter", "pupil"};
        for (int kind = 0; kind < 7; kind++) {
            due.is("31 " + words[kind], Due.read(x, words[kind]), 1);
            due.is("31 KIND", x.of(kind, 0), kind);
            due.is("31 LOT", x.of(kind, 1), -1);
            due.is("31 BELIEF", x.of(kind, 2), 50);
            due.is("31 PURSE", x.of(kind, 3), 50);
        }
        due.is("31 tape is empty", x.count(5), 0);
        FogLots y = new FogLots();
        due.is("31 all parts", Due.read(y, "mayor on 9 believes 99 purse 9999;pupil purse 0;"
            + "lot 9 fog 99 rent 20 owner 0;lot 0;lot 1 rent 3;sun 5 40;mist 40;sun 5 9"), 8);
        due.is("31 LOT", y.of(0, 1), 9);
        due.is("31 BELIEF", y.of(0, 2), 99);
        due.is("31 PURSE", y.of(0, 3), 9999);
        due.is("31 PURSE", y.of(1, 3), 0);
        due.is("31 FOG", y.lotOf(9, 0), 99);
        due.is("31 RENT", y.lotOf(9, 1), 20);
        due.is("31 OWNER", y.lotOf(9, 2), 0);
        due.is("31 FOG", y.lotOf(0, 0), 50);
        due.is("31 RENT", y.lotOf(1, 1), 3);
        due.is("31 SUN, the later one", y.sun(5, 5), 9);
        due.is("31 MIST", y.mist(5), 40);
    }

    private static void tokens() {
        FogLots x = new FogLots();
        due.is("31 no blanks", Due.read(x, "person on4believes7purse0008;mist6;lot3fog0owner0"), 3);
        due.is("31 LOT", x.of(0, 1), 4);
        due.is("31 BELIEF", x.of(0, 2), 7);
        due.is("31 PURSE", x.of(0, 3), 8);
        due.is("31 many blanks", Due.read(x, "  mist   000000000000007  ;  lot  2  "), 2);
        due.is("31 MIST", x.mist(5), 7);
        due.is("31 words run on", Due.read(x, "personon 4"), -1);
        due.is("31 capitals", Due.read(x, "Person"), -1);
        due.is("31 no findings", x.status(-1), 0);
    }

    private static void fault(String text, int place) {
        FogLots x = new FogLots();
        x.person(3);
        x.lot(4, 0, 44);
        String before = Due.seen(x);
        due.is("31 fault of '" + text + "'", Due.read(x, text), -1 - place);
        due.same("31 fault of '" + text + "'", before, Due.seen(x));
        due.is("31 no finding by '" + text + "'", x.status(-1), 0);
    }

    private static void faults() {
        fault("", 0);
        fault("   ", 3);
        fault(";", 0);
        fault("7", 0);
        fault("on 3", 0);
        fault("mist", 4);
        fault("mist ", 5);
        fault("mist 41", 5);
        fault("mist x", 5);
        fault("mist 4;", 7);
        fault("mist 4; ", 8);
        fault("mist 4 5", 7);
        fault("mist 4;;mist 5", 7);
        fault("mist 4 mist 5", 7);
        fault("sun", 3);
        fault("sun 6 0", 4);
        fault("sun 0 41", 6);
        fault("sun 0", 5);
        fault("sun 0;", 5);
        fault("sun 0 1 2", 8);
        fault("lot", 3);
        fault("lot 10", 4);
        fault("lot fog 3", 4);
        fault("lot 1 fog", 9);
        fault("lot 1 fog 100", 10);
        fault("lot 1 rent 21", 11);
        fault("lot 1 owner 1", 12);
        fault("lot 1 owner 0;lot 1 owner 1;person", 26);
        fault("lot 1 rent 3 fog 4", 13);
        fault("lot 1 owner 0 rent 4", 14);
        fault("lot 1 fog 3 fog 4", 12);
        fault("lot 1 on 3", 6);
        fault("person on", 9);
        fault("person on 10", 10);
        fault("person on 3 on 4", 12);
        fault("person believes 100", 16);
        fault("person purse 10000", 13);
        fault("person purse 99999999999999999999", 13);
        fault("person purse 4294967296", 13);
        fault("person purse 1 on 3", 15);
        fault("person believes 1 on 3", 18);
        fault("person fog 3", 7);
        fault("person 3", 7);
        fault("person #", 7);
        fault("person on 3#", 11);
        fault("person\t", 6);
        fault("person on -1", 10);
        fault("person;cow", 7);
        fault("persons", 0);
        fault("berson", 0);
        fault("xist 4", 0);
        fault("mistz 4", 0);
        fault("mista 4", 0);
        fault(";mist 4", 0);
        fault("perso", 0);
        fault("mist 4" + (char) 200, 6);
        fault("mist 4" + (char) 0, 6);
        fault("mist 4:", 6);
        fault("`mist 4", 0);
        fault("mist 4{", 6);
        fault("mist /", 5);
    }

    private static void ninth() {
        FogLots x = new FogLots();
        for (int i = 0; i < 7; i++) {
            x.person(0);
        }
        String before = Due.seen(x);
        due.is("31 a 9th one", Due.read(x, "member on 3; doubter on 77"), -1 - 13);
        due.same("31 a 9th one", before, Due.seen(x));
        due.is("31 an 8th one", Due.read(x, "member on 3;lot 3 owner 7"), 2);
        due.is("31 a 9th one", Due.read(x, "member"), -1);
        due.is("31 count(1)", x.count(1), 8);
    }
}
