/** Promises 17 to 22: how to stand. */
final class StandingTest {
    private static final Due due = new Due();

    public static void main(String[] args) {
        beliefFor();
        settle();
        kindFor();
        rentFor();
        sunFor();
        away();
        wrong();
        due.end();
    }

    private static void beliefFor() {
        FogLots x = new FogLots();
        Due.tell(x, "person on 0;doubter on 1;member on 2;surveyor on 5");
        due.is("17 beliefFor(0, 5)", x.beliefFor(0, 5), 20);
        due.is("17 beliefFor(0, 0)", x.beliefFor(0, 0), 0);
        due.is("17 beliefFor(1, 5)", x.beliefFor(1, 5), Due.NONE);
        due.is("17 beliefFor(1, 0)", x.beliefFor(1, 0), 0);
        due.is("17 beliefFor(2, 40)", x.beliefFor(2, 40), 0);
        due.is("17 beliefFor(3, 40)", x.beliefFor(3, 40), 40);
        x.sun(3, 9);
        due.is("17 beliefFor(0, 3)", x.beliefFor(0, 3), 20);
        due.is("17 beliefFor(0, 4)", x.beliefFor(0, 4), 28);
        due.is("17 beliefFor(0, 40)", x.beliefFor(0, 40), 76);
        x.change(1, 4, 9999);
        due.is("17 FELL stays 9999", x.beliefFor(1, 5), 0);
    }

    private static void settle() {
        FogLots x = new FogLots();
        Due.tell(x, "person on 0;lot 7 fog 90;lot 8 fog 90;lot 2 fog 0");
        for (int lot = 0; lot < 7; lot++) {
            x.lot(lot, 0, 10);
        }
        due.is("18 settle(0, 0)", x.settle(0, 0), 0);
        due.is("18 settle(0, 1)", x.settle(0, 1), 7);
        x.lot(7, 0, 10);
        due.is("18 settle(0, 1)", x.settle(0, 1), 8);
        FogLots z = new FogLots();
        z.person(5);
        due.is("18 settle(0, 0)", z.settle(0, 0), 0);
        due.is("18 a doubter falls everywhere", z.settle(0, 40), 0);
        FogLots y = new FogLots();
        Due.tell(y, "pupil believes 0;member on 6;member on 6;member on 3");
        for (int lot = 0; lot < 10; lot++) {
            y.lot(lot, 0, 36);
        }
        due.is("18 a pupil beside two", y.settle(0, 1), 6);
    }

    private static void kindFor() {
        FogLots x = new FogLots();
        Due.tell(x, "person on 0;member;lot 0 rent 5 owner 1");
        due.is("19 kindFor(0, 0)", x.kindFor(0, 0), 0);
        // A doubter falls off and saves its rent.
        due.is("19 kindFor(0, 1)", x.kindFor(0, 1), 5);
        for (int lot = 0; lot < 10; lot++) {
            x.lot(lot, 0, 30);
        }
        due.is("19 kindFor(0, 1), a person falls too", x.kindFor(0, 1), 0);
    }

    private static void rentFor() {
        FogLots x = new FogLots();
        Due.tell(x, "member on 0 purse 50;member on 1;lot 0 owner 1");
        due.is("20 rentFor(0, 0)", x.rentFor(0, 0), 0);
        due.is("20 rentFor(0, 1)", x.rentFor(0, 1), 20);
        due.is("20 rentFor(0, 4)", x.rentFor(0, 4), 13);
        due.is("20 rentFor(0, 40)", x.rentFor(0, 40), 2);
        due.is("20 rentFor(1, 4)", x.rentFor(1, 4), Due.NONE);
        x.lot(1, 2, 1);
        due.is("20 one's own rent is nothing", x.rentFor(1, 4), 0);
    }

    private static void sunFor() {
        FogLots x = new FogLots();
        due.is("21 sunFor(40), nobody", x.sunFor(40), 40);
        Due.tell(x, "person on 0");
        due.is("21 sunFor(0)", x.sunFor(0), 40);
        due.is("21 sunFor(1)", x.sunFor(1), 20);
        due.is("21 sunFor(3)", x.sunFor(3), 10);
        due.is("21 sunFor(40)", x.sunFor(40), 5);
        Due.tell(x, "doubter on 0");
        due.is("21 sunFor(1), a doubter", x.sunFor(1), Due.NONE);
        x.change(1, 4, 9999);
        due.is("21 sunFor(1), FELL stays", x.sunFor(1), 20);
        x.mist(0);
        for (int lot = 0; lot < 10; lot++) {
            x.lot(lot, 0, 35);
        }
        due.is("21 sunFor(1), none at all", x.sunFor(1), 0);
        x.lot(0, 0, 34);
        due.is("21 sunFor(1), not even that", x.sunFor(1), Due.NONE);
    }

    private static void away() {
        FogLots x = new FogLots();
        due.is("22 away(0, 0), nobody", x.away(0, 0), Due.BEYOND);
        Due.tell(x, "person on 0;doubter");
        due.is("22 away(0, 12)", x.away(0, 12), 0);
        due.is("22 away(1, 12)", x.away(1, 12), Due.NONE);
        due.is("22 away(1, 0)", x.away(1, 0), Due.NONE);
        // The pupil is held on the 1st day by the two beside it and falls on the 2nd; if it
        // falls on the 1st already, it is back on thicker fog on the 2nd.
        FogLots y = new FogLots();
        Due.tell(y, "pupil on 0 believes 0;member on 0 believes 0;member on 0 believes 0;doubter;sun 1 8");
        for (int lot = 0; lot < 10; lot++) {
            y.lot(lot, 0, lot < 7 ? 38 : 99);
        }
        String before = Due.seen(y);
        due.is("22 away(0, 0)", y.away(0, 0), 0);
        due.is("22 away(0, 1)", y.away(0, 1), 0);
        due.is("22 away(0, 2), both", y.away(0, 2), 0b0110);
        due.same("22 away", before, Due.seen(y));
        for (int lot = 0; lot < 7; lot++) {
            y.lot(lot, 0, 36);
        }
        due.is("22 away(0, 2), either", y.away(0, 2), 0b0010);
        y.change(0, 1, -1);
        due.is("22 away(0, 0), in a boat", y.away(0, 0), Due.NONE);
        fewestBeforeLeast();
    }

    private static void fewestBeforeLeast() {
        // All others must go: the pupil is the last one here.
        FogLots x = new FogLots();
        Due.tell(x, "member on 0 believes 0;member on 0 believes 0;pupil on 0 believes 0;sun 1 8");
        for (int lot = 0; lot < 10; lot++) {
            x.lot(lot, 0, lot < 7 ? 38 : 99);
        }
        due.is("22 away(2, 2), all others", x.away(2, 2), 0b011);
        for (int lot = 0; lot < 7; lot++) {
            x.lot(lot, 0, 36);
        }
        due.is("22 away(2, 2), either", x.away(2, 2), 0b001);
        // Person 2 holds the pupil by what it believes, 0 and 1 by being there: with 2 away, or
        // with both of these, it falls on the 2nd day and is back on the 3rd.
        FogLots y = new FogLots();
        Due.tell(y, "member on 0 believes 0;member on 0 believes 0;member on 0 believes 99;"
            + "pupil on 0 believes 0;sun 0 5;sun 1 30;sun 2 18");
        for (int lot = 0; lot < 10; lot++) {
            y.lot(lot, 0, lot < 7 ? 50 : 99);
        }
        due.is("22 away(3, 3), the fewest", y.away(3, 3), 0b0100);
    }

    private static void wrong() {
        FogLots x = new FogLots();
        x.person(0);
        x.lot(0, 2, 0);
        String before = Due.seen(x);
        int[][] wrong = {{-1, 0}, {1, 0}, {0, -1}, {0, 41}, {Integer.MIN_VALUE, 0}, {0, Integer.MAX_VALUE}};
        for (int[] w : wrong) {
            due.is("17 beliefFor wrong", x.beliefFor(w[0], w[1]), Due.BEYOND);
            due.is("18 settle wrong", x.settle(w[0], w[1]), Due.BEYOND);
            due.is("19 kindFor wrong", x.kindFor(w[0], w[1]), Due.BEYOND);
            due.is("22 away wrong", x.away(w[0], w[1]), Due.BEYOND);
        }
        due.is("22 away(0, 13)", x.away(0, 13), Due.BEYOND);
        due.is("20 rentFor(-1, 0)", x.rentFor(-1, 0), Due.BEYOND);
        due.is("20 rentFor(10, 0)", x.rentFor(10, 0), Due.BEYOND);
        due.is("20 rentFor(0, -1)", x.rentFor(0, -1), Due.BEYOND);
        due.is("20 rentFor(0, 41)", x.rentFor(0, 41), Due.BEYOND);
        due.is("20 rentFor(1, 41), nobody's", x.rentFor(1, 41), Due.BEYOND);
        due.is("21 sunFor(-1)", x.sunFor(-1), Due.BEYOND);
        due.is("21 sunFor(41)", x.sunFor(41), Due.BEYOND);
        due.same("17 to 22 wrong", before, Due.seen(x));
    }
}
