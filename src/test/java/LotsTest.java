/** Promises 1 to 9: a new object, lots, sun, mist, people, trust. */
final class LotsTest {
    private static final Due due = new Due();

    public static void main(String[] args) {
        newObject(new FogLots());
        besideAnother();
        lot();
        lotOf();
        sunAndMist();
        person();
        of();
        makesFor();
        change();
        trust();
        due.end();
    }

    /** What is done to one object is nothing to another one, made before or behind it. */
    private static void besideAnother() {
        FogLots before = new FogLots();
        FogLots x = new FogLots();
        for (int i = 0; i < 8; i++) {
            x.person(i % 7);
            x.change(i, 1, i);
            x.hold(i, i);
        }
        for (int lot = 0; lot < 10; lot++) {
            x.lot(lot, 0, 90);
            x.lot(lot, 1, 9);
            x.lot(lot, 2, 7);
        }
        x.sun(3, 33);
        x.mist(33);
        Due.put(x, 0, 8, 1, 2, 3);
        x.fine(3);
        x.image();
        x.undo();
        x.person(0);
        x.feed(0, 4);
        newObject(before);
        newObject(new FogLots());
    }

    private static void newObject(FogLots x) {
        for (int lot = 0; lot < 10; lot++) {
            due.is("1 lotOf(" + lot + ", 0)", x.lotOf(lot, 0), 50);
            due.is("1 lotOf(" + lot + ", 1)", x.lotOf(lot, 1), 0);
            due.is("1 lotOf(" + lot + ", 2)", x.lotOf(lot, 2), -1);
        }
        for (int i = 0; i < 6; i++) {
            due.is("1 sun", x.sun(i, 5), 5);
        }
        due.is("1 mist", x.mist(5), 5);
        int[] counts = {0, 0, 0, 0, 0, 0, 1, 0};
        for (int what = 0; what < 8; what++) {
            due.is("1 count(" + what + ")", x.count(what), counts[what]);
        }
        for (int which = -1; which < 7; which++) {
            due.is("1 status(" + which + ")", x.status(which), 0);
        }
        due.is("1 tear()", x.tear(), 0);
        for (int s = 0; s < 4; s++) {
            due.is("1 load(" + s + ")", x.load(s), Due.MISSING);
        }
        for (int spot = 0; spot < 10; spot++) {
            due.is("1 as(" + spot + ", 0)", x.as(spot, 0), Due.MISSING);
        }
        due.is("1 wipe()", x.wipe(), 0);
    }

    private static void lot() {
        FogLots x = new FogLots();
        x.person(0);
        due.is("2 lot(9, 0, 99)", x.lot(9, 0, 99), 50);
        due.is("2 lot(9, 0, 0)", x.lot(9, 0, 0), 99);
        due.is("2 lot(9, 1, 20)", x.lot(9, 1, 20), 0);
        due.is("2 lot(9, 1, 0)", x.lot(9, 1, 0), 20);
        due.is("2 lot(9, 2, 0)", x.lot(9, 2, 0), -1);
        due.is("2 lot(9, 2, -1)", x.lot(9, 2, -1), 0);
        due.is("2 lot(0, 0, 7)", x.lot(0, 0, 7), 50);
        String before = Due.seen(x);
        int[][] wrong = {{-1, 0, 0}, {10, 0, 0}, {0, -1, 0}, {0, 3, 0}, {0, 0, -1}, {0, 0, 100},
            {0, 1, -1}, {0, 1, 21}, {0, 2, -2}, {0, 2, 1}, {0, 2, 8}, {Integer.MIN_VALUE, 0, 0}};
        for (int[] w : wrong) {
            due.is("2 lot wrong", x.lot(w[0], w[1], w[2]), Due.BEYOND);
        }
        due.same("2 lot wrong", before, Due.seen(x));
        due.is("2 status(0)", x.status(0), wrong.length);
    }

    private static void lotOf() {
        FogLots x = new FogLots();
        Due.tell(x, "person on 3 believes 20;cottager on 3 believes 20;doubter;member on 0;"
            + "lot 3 fog 30 rent 7 owner 2");
        due.is("3 lotOf(3, 0)", x.lotOf(3, 0), 30);
        due.is("3 lotOf(3, 1)", x.lotOf(3, 1), 7);
        due.is("3 lotOf(3, 2)", x.lotOf(3, 2), 2);
        due.is("3 lotOf(3, 3)", x.lotOf(3, 3), 3);
        // 30 and 30 of the cottager are just 60; the member stands everywhere.
        due.is("3 lotOf(3, 4)", x.lotOf(3, 4), 0b1010);
        x.change(1, 2, 19);
        due.is("3 lotOf(3, 4)", x.lotOf(3, 4), 0b1000);
        due.is("3 lotOf(4, 3)", x.lotOf(4, 3), 0);
        int[][] wrong = {{-1, 0}, {10, 0}, {0, -1}, {0, 5}};
        for (int[] w : wrong) {
            due.is("3 lotOf wrong", x.lotOf(w[0], w[1]), Due.BEYOND);
        }
    }

    private static void sunAndMist() {
        FogLots x = new FogLots();
        due.is("4 sun(0, 40)", x.sun(0, 40), 5);
        due.is("4 sun(0, 0)", x.sun(0, 0), 40);
        due.is("4 sun(5, 1)", x.sun(5, 1), 5);
        due.is("4 sun(5, 5)", x.sun(5, 5), 1);
        due.is("5 mist(40)", x.mist(40), 5);
        due.is("5 mist(0)", x.mist(0), 40);
        String before = Due.seen(x);
        due.is("4 sun(-1, 0)", x.sun(-1, 0), Due.BEYOND);
        due.is("4 sun(6, 0)", x.sun(6, 0), Due.BEYOND);
        due.is("4 sun(0, -1)", x.sun(0, -1), Due.BEYOND);
        due.is("4 sun(0, 41)", x.sun(0, 41), Due.BEYOND);
        due.is("5 mist(-1)", x.mist(-1), Due.BEYOND);
        due.is("5 mist(41)", x.mist(41), Due.BEYOND);
        due.same("4, 5 wrong", before, Due.seen(x));
    }

    private static void person() {
        FogLots x = new FogLots();
        due.is("6 person(-1)", x.person(-1), Due.BEYOND);
        due.is("6 person(7)", x.person(7), Due.BEYOND);
        for (int i = 0; i < 8; i++) {
            due.is("6 person", x.person(i % 7), i);
            int[] first = {i % 7, -1, 50, 50, 0};
            for (int what = 0; what < 5; what++) {
                due.is("6 of(" + i + ", " + what + ")", x.of(i, what), first[what]);
            }
        }
        String before = Due.seen(x);
        due.is("6 person(0), a 9th", x.person(0), Due.FULL);
        due.is("6 person(7), a 9th", x.person(7), Due.BEYOND);
        due.same("6 person full", before, Due.seen(x));
    }

    private static void of() {
        FogLots x = new FogLots();
        int[] loses = {10, 2, 10, 5, 0, 20, 2};
        for (int kind = 0; kind < 7; kind++) {
            x.person(kind);
            due.is("7 of(" + kind + ", 0)", x.of(kind, 0), kind);
            due.is("7 of(" + kind + ", 5)", x.of(kind, 5), loses[kind]);
        }
        x.lot(0, 2, 3);
        x.lot(9, 2, 3);
        due.is("7 of(3, 7)", x.of(3, 7), 513);
        due.is("7 of(2, 7)", x.of(2, 7), 0);
        int[][] wrong = {{-1, 0}, {7, 0}, {8, 0}, {0, -1}, {0, 8}};
        for (int[] w : wrong) {
            due.is("7 of wrong", x.of(w[0], w[1]), Due.BEYOND);
        }
    }

    private static void makesFor() {
        FogLots x = new FogLots();
        for (int kind = 0; kind < 7; kind++) {
            x.person(kind);
        }
        int[] fog = {5, 46, 70, 50, 70, 61, 60, 5, 5, 5};
        int[] rent = {3, 9, 8, 9, 6, 6, 2, 3, 3, 3};
        for (int lot = 0; lot < 10; lot++) {
            x.lot(lot, 0, fog[lot]);
            x.lot(lot, 1, rent[lot]);
        }
        // Trusts of 25, 45, 15, 15, 60, 0 and 45.
        int[] madeFor = {2, 2, 6, 6, 6, 2, 1};
        for (int kind = 0; kind < 7; kind++) {
            due.is("7 of(" + kind + ", 6)", x.of(kind, 6), madeFor[kind]);
        }
        x.lot(7, 2, 3);
        x.lot(7, 1, 0);
        due.is("7 a mayor's own lot, too thin", x.of(3, 6), 6);
        x.lot(7, 0, 15);
        due.is("7 a mayor's own lot", x.of(3, 6), 7);
        x.change(6, 2, 0);
        due.is("7 a pupil of no belief", x.of(6, 6), 1);
        x.lot(1, 0, 38);
        due.is("7 a pupil on a thinner lot", x.of(6, 6), 2);
        x.change(0, 1, 1);
        due.is("7 a pupil beside another", x.of(6, 6), 1);
        for (int lot = 0; lot < 10; lot++) {
            x.lot(lot, 0, 59);
        }
        due.is("7 a doubter without a lot", x.of(5, 6), -1);
    }

    private static void change() {
        FogLots x = new FogLots();
        x.person(0);
        due.is("8 change(0, 0, 6)", x.change(0, 0, 6), 0);
        due.is("8 change(0, 0, 2)", x.change(0, 0, 2), 6);
        due.is("8 change(0, 1, 9)", x.change(0, 1, 9), -1);
        due.is("8 change(0, 1, 0)", x.change(0, 1, 0), 9);
        due.is("8 change(0, 1, -1)", x.change(0, 1, -1), 0);
        due.is("8 change(0, 2, 99)", x.change(0, 2, 99), 50);
        due.is("8 change(0, 2, 0)", x.change(0, 2, 0), 99);
        due.is("8 change(0, 3, 9999)", x.change(0, 3, 9999), 50);
        due.is("8 change(0, 3, 0)", x.change(0, 3, 0), 9999);
        due.is("8 change(0, 4, 9999)", x.change(0, 4, 9999), 0);
        due.is("8 change(0, 4, 1)", x.change(0, 4, 1), 9999);
        due.is("8 change(0, 4, 0)", x.change(0, 4, 0), 1);
        due.is("8 of(0, 4)", x.of(0, 4), 0);
        String before = Due.seen(x);
        int[][] wrong = {{-1, 0, 0}, {1, 0, 0}, {8, 0, 0}, {0, -1, 0}, {0, 5, 0}, {0, 0, -1}, {0, 0, 7},
            {0, 1, -2}, {0, 1, 10}, {0, 2, -1}, {0, 2, 100}, {0, 3, -1}, {0, 3, 10000}, {0, 4, -1},
            {0, 4, 10000}};
        for (int[] w : wrong) {
            due.is("8 change wrong", x.change(w[0], w[1], w[2]), Due.BEYOND);
        }
        due.same("8 change wrong", before, Due.seen(x));
    }

    private static void trust() {
        FogLots x = new FogLots();
        for (int kind = 0; kind < 7; kind++) {
            x.person(kind);
            x.change(kind, 2, 71);
        }
        x.change(6, 1, 4);
        x.change(0, 1, 4);
        x.change(1, 1, 4);
        x.lot(2, 2, 3);
        int[] onFour = {35, 55, 25, 25, 60, 0, 59};
        int[] onTwo = {35, 55, 25, 55, 60, 0, 55};
        for (int kind = 0; kind < 7; kind++) {
            due.is("9 trust(" + kind + ", 4)", x.trust(kind, 4), onFour[kind]);
            due.is("9 trust(" + kind + ", 2)", x.trust(kind, 2), onTwo[kind]);
        }
        x.change(2, 2, 19);
        due.is("9 a surveyor of little belief", x.trust(2, 0), 0);
        x.change(2, 2, 22);
        due.is("9 a surveyor of a little more", x.trust(2, 0), 1);
        x.change(3, 2, 19);
        due.is("9 a mayor of little belief at home", x.trust(3, 2), 30);
        due.is("9 trust(-1, 0)", x.trust(-1, 0), Due.BEYOND);
        due.is("9 trust(7, 0)", x.trust(7, 0), Due.BEYOND);
        due.is("9 trust(0, -1)", x.trust(0, -1), Due.BEYOND);
        due.is("9 trust(0, 10)", x.trust(0, 10), Due.BEYOND);
    }
}
