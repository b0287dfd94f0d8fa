/** Promises 23 to 28: told lots, fine days. */
final class ToldTest {
    private static final Due due = new Due();

    public static void main(String[] args) {
        beliefs();
        kinds();
        emptyAndOdd();
        wrong();
        fine();
        odds();
        seed();
        due.end();
    }

    private static void beliefs() {
        FogLots x = new FogLots();
        Due.tell(x, "person on 3");
        for (int bits = 8; bits <= 32; bits *= 2) {
            // Fog is 50: a belief of 20 or more stands, one below falls and stays in a boat.
            Due.put(x, 0, bits, 3, 3, 3);
            due.is("23 fits, stands", x.fits(0, 0), 80);
            due.is("24 believed, stands", x.believed(0, 0), 20);
            Due.put(x, 1, bits, 3, -1, -1);
            due.is("23 fits, fell", x.fits(1, 0), 20);
            due.is("24 believed, fell", x.believed(1, 0), 0);
            Due.put(x, 2, bits, -2, -2);
            due.is("23 fits, any", x.fits(2, 0), 100);
            Due.put(x, 3, bits, -1, -2, -2);
            due.is("23 fits, not there now", x.fits(3, 0), 0);
            due.is("24 believed, not there now", x.believed(3, 0), Due.NONE);
        }
        x.sun(1, 15);
        Due.put(x, 0, 16, -2, 3, -1);
        String before = Due.seen(x);
        due.is("23 fits, falls on the 2nd day", x.fits(0, 0), 20);
        due.is("24 believed, falls on the 2nd day", x.believed(0, 0), 20);
        due.same("23, 24", before, Due.seen(x));
        // A mayor of 99 has 94 behind a fall and 37 of trust, one of 98 has 36.
        FogLots y = new FogLots();
        Due.tell(y, "mayor on 0;mist 9;sun 0 9;sun 1 6");
        for (int lot = 0; lot < 10; lot++) {
            y.lot(lot, 0, 20);
        }
        Due.put(y, 0, 8, 0, -1, 0);
        due.is("23 fits, 99 alone", y.fits(0, 0), 1);
        due.is("24 believed, 99 alone", y.believed(0, 0), 99);
    }

    private static void kinds() {
        FogLots x = new FogLots();
        Due.tell(x, "person on 3;lot 3 fog 47");
        for (int lot = 0; lot < 10; lot++) {
            x.lot(lot, 0, 47);
        }
        // Trusts of 25, 45, 15, 15, 60, 0 and 45 need 13.
        Due.put(x, 0, 8, 3, 3);
        due.is("25 kinds, stands", x.kinds(0, 0), 0b1011111);
        Due.put(x, 0, 8, 3, -1);
        due.is("25 kinds, falls", x.kinds(0, 0), 0b0100000);
        x.change(0, 1, -1);
        x.lot(0, 1, 1);
        x.lot(4, 0, 50);
        x.lot(5, 0, 50);
        x.mist(5);
        Due.put(x, 0, 8, -1, 1);
        due.is("25 kinds, the first of least rent", x.kinds(0, 0), 0b0011100);
        Due.put(x, 0, 8, -1, 4);
        due.is("25 kinds, the first of most fog", x.kinds(0, 0), 0b0000011);
        Due.put(x, 0, 8, -1, 0);
        due.is("25 kinds, the least lot", x.kinds(0, 0), 0b1000000);
        due.is("25 KIND is as it was", x.of(0, 0), 0);
    }

    private static void emptyAndOdd() {
        FogLots x = new FogLots();
        x.person(0);
        x.sheet(0, 8, 0);
        due.is("23 fits, an empty sheet", x.fits(0, 0), 100);
        due.is("24 believed, an empty sheet", x.believed(0, 0), 0);
        due.is("25 kinds, an empty sheet", x.kinds(0, 0), 127);
        Due.put(x, 0, 32, 10);
        due.is("23 fits, no such lot", x.fits(0, 0), 0);
        Due.put(x, 0, 32, -3);
        due.is("25 kinds, no such lot", x.kinds(0, 0), 0);
        Due.put(x, 0, 32, 255);
        due.is("23 fits, 255 is no boat", x.fits(0, 0), 0);
        Due.put(x, 0, 8, 255);
        due.is("23 fits, 255 of 8 bits is", x.fits(0, 0), 100);
    }

    private static void wrong() {
        FogLots x = new FogLots();
        x.person(0);
        x.sheet(0, 8, 1);
        int[][] calls = {{-1, 0}, {4, 0}, {4, 9}, {1, 0}, {1, 9}, {0, 1}, {0, -1}};
        long[] want = {Due.BEYOND, Due.BEYOND, Due.BEYOND, Due.MISSING, Due.MISSING, Due.BEYOND, Due.BEYOND};
        for (int i = 0; i < calls.length; i++) {
            due.is("23 fits wrong " + i, x.fits(calls[i][0], calls[i][1]), want[i]);
            due.is("24 believed wrong " + i, x.believed(calls[i][0], calls[i][1]), want[i]);
            due.is("25 kinds wrong " + i, x.kinds(calls[i][0], calls[i][1]), want[i]);
        }
    }

    private static int draw(int[] z) {
        z[0] = z[0] * 1103515245 + 12345;
        return z[0] >>> 8;
    }

    private static void fine() {
        FogLots x = new FogLots();
        FogLots y = new FogLots();
        for (int lot = 0; lot < 10; lot++) {
            x.person(0);
            x.lot(lot, 2, 0);
            y.person(0);
            y.lot(lot, 2, 0);
        }
        x.seed(77);
        int[] z = {77};
        for (int round = 0; round < 6; round++) {
            due.is("26 fine(3)", x.fine(3), fineByHand(y, z, 3));
            due.is("26 z", x.count(6), z[0]);
            y.seed(z[0]);
            due.same("26 fine(3)", Due.seen(y), Due.seen(x));
        }
        String before = Due.seen(x);
        due.is("26 fine(0)", x.fine(0), Due.BEYOND);
        due.is("26 fine(21)", x.fine(21), Due.BEYOND);
        due.is("26 fine(-1)", x.fine(-1), Due.BEYOND);
        due.same("26 fine wrong", before, Due.seen(x));
        x.fine(20);
        due.is("26 fine(20)", x.now(0), 38);
    }

    private static int fineByHand(FogLots y, int[] z, int n) {
        int set = 0;
        for (int i = 0; i < n; i++) {
            y.sun(y.now(0) % 6, draw(z) % 41);
            y.lot(draw(z) % 10, 2, -1);
            set = y.go(1);
        }
        return set;
    }

    private static void odds() {
        FogLots x = new FogLots();
        x.person(0);
        due.is("27 odds, all, above", x.odds(0, 18, 0), 1);
        due.is("27 odds, all, below", x.odds(0, 18, 1), 1);
        for (int lot = 0; lot < 3; lot++) {
            x.lot(lot, 0, 0);
        }
        due.is("27 odds 7/10, above", x.odds(0, 18, 0), 1628413597910449L);
        due.is("27 odds 7/10, below", x.odds(0, 18, 1), 1000000000000000000L);
        due.is("27 odds 7/10, above", x.odds(0, 3, 0), 343);
        due.is("27 odds 7/10, below", x.odds(0, 3, 1), 1000);
        x.lot(3, 0, 0);
        due.is("27 odds 3/5, above", x.odds(0, 2, 0), 9);
        due.is("27 odds 3/5, below", x.odds(0, 2, 1), 25);
        x.lot(4, 0, 0);
        due.is("27 odds 1/2, above", x.odds(0, 18, 0), 1);
        due.is("27 odds 1/2, below", x.odds(0, 18, 1), 262144);
        due.is("27 odds of no lots, above", x.odds(0, 0, 0), 1);
        due.is("27 odds of no lots, below", x.odds(0, 0, 1), 1);
        x.change(0, 0, 5);
        due.is("27 odds 0, above", x.odds(0, 1, 0), 0);
        due.is("27 odds 0, below", x.odds(0, 1, 1), 1);
        due.is("27 odds 0 of no lots, above", x.odds(0, 0, 0), 1);
        due.is("27 odds 0 of no lots, below", x.odds(0, 0, 1), 1);
        due.is("27 z", x.count(6), 1);
        int[][] wrong = {{-1, 0, 0}, {1, 0, 0}, {0, -1, 0}, {0, 19, 0}, {0, 0, -1}, {0, 0, 2}};
        for (int[] w : wrong) {
            due.is("27 odds wrong", x.odds(w[0], w[1], w[2]), Due.BEYOND);
        }
        due.is("27 status(0)", x.status(0), wrong.length);
    }

    private static void seed() {
        FogLots x = new FogLots();
        due.is("28 seed(-2000000)", x.seed(-2000000), 1);
        due.is("28 seed(5)", x.seed(5), -2000000);
        due.is("28 count(6)", x.count(6), 5);
        due.is("28 no finding", x.status(-1), 0);
    }
}
