/** Promises 10 to 16: days, and what will be. */
final class DaysTest {
    private static final Due due = new Due();

    public static void main(String[] args) {
        fogInADay();
        falling();
        coming();
        rents();
        beliefs();
        go();
        now();
        ahead();
        falls();
        bare();
        meet();
        due.end();
    }

    private static void fogInADay() {
        FogLots x = new FogLots();
        for (int lot = 0; lot < 10; lot++) {
            x.lot(lot, 0, lot == 4 ? 90 : 10);
        }
        x.sun(0, 20);
        x.mist(5);
        // 75 and 0 behind sun and mist (held once, at the end): 18 goes to each side.
        int[] first = {0, 0, 0, 18, 39, 18, 0, 0, 0, 0};
        for (int lot = 0; lot < 10; lot++) {
            due.is("13 fog(" + lot + ", 1)", x.fog(lot, 1), first[lot]);
        }
        x.go(1);
        for (int lot = 0; lot < 10; lot++) {
            due.is("10 lotOf(" + lot + ", 0)", x.lotOf(lot, 0), first[lot]);
        }
        // Sun 5 and mist 5 then: only the spreading, a fourth cut towards 0.
        x.go(1);
        int[] second = {0, 0, 4, 19, 29, 19, 4, 0, 0, 0};
        for (int lot = 0; lot < 10; lot++) {
            due.is("10 lotOf(" + lot + ", 0), 2nd day", x.lotOf(lot, 0), second[lot]);
        }
        x.mist(40);
        x.go(10);
        due.is("10 fog is held at 99", x.now(1), 990);
        due.is("13 fog(0, 0)", x.fog(0, 0), 99);
        due.is("13 fog(-1, 0)", x.fog(-1, 0), Due.BEYOND);
        due.is("13 fog(10, 0)", x.fog(10, 0), Due.BEYOND);
        due.is("13 fog(0, -1)", x.fog(0, -1), Due.BEYOND);
        due.is("13 fog(0, 101)", x.fog(0, 101), Due.BEYOND);
        listInTurn();
    }

    private static void listInTurn() {
        FogLots x = new FogLots();
        for (int i = 0; i < 6; i++) {
            x.sun(i, i);
        }
        x.mist(0);
        int[] fog = {50, 50, 49, 47, 44, 40, 35, 35, 34};
        for (int n = 0; n < fog.length; n++) {
            due.is("13 fog(3, " + n + ")", x.fog(3, n), fog[n]);
        }
    }

    private static void falling() {
        FogLots x = new FogLots();
        int[] left = {40, 48, 40, 45, 50, 30, 48};
        for (int kind = 0; kind < 7; kind++) {
            x.person(kind);
            x.change(kind, 1, kind);
        }
        for (int lot = 0; lot < 10; lot++) {
            x.lot(lot, 0, 0);
        }
        due.is("10 only the member stands", x.go(1), 1 << 4);
        for (int kind = 0; kind < 7; kind++) {
            due.is("10 FELL of " + kind, x.of(kind, 4), kind == 4 ? 0 : 1);
            due.is("10 BELIEF of " + kind, x.of(kind, 2), left[kind]);
        }
        FogLots y = new FogLots();
        Due.tell(y, "doubter on 0 believes 5;lot 0 fog 0");
        y.change(0, 4, 9999);
        y.go(1);
        due.is("10 FELL is 9999 at most", y.of(0, 4), 9999);
        due.is("10 BELIEF is 0 at least", y.of(0, 2), 0);
        // One that fell stays in its boat in this day, though another lot would bear it.
        FogLots z = new FogLots();
        Due.tell(z, "person on 0;lot 0 fog 0;lot 1 fog 0;lot 9 fog 99;sun 0 0;sun 1 0;mist 0");
        due.is("10 fallen", z.go(1), 0);
        due.is("10 comes on the next day", z.go(1), 1);
        due.is("10 to the lot of most fog", z.of(0, 1), 9);
    }

    private static void coming() {
        // By numbers: pupil 1 is borne by person 0 who came ahead of it in the same day.
        FogLots x = new FogLots();
        Due.tell(x, "person believes 99;pupil believes 0;sun 0 5;mist 5");
        for (int lot = 0; lot < 10; lot++) {
            x.lot(lot, 0, 38);
        }
        due.is("10 both come", x.go(1), 3);
        due.is("10 pupil comes behind", x.of(1, 1), 0);
        FogLots y = new FogLots();
        Due.tell(y, "pupil believes 0;person believes 99");
        for (int lot = 0; lot < 10; lot++) {
            y.lot(lot, 0, 38);
        }
        due.is("10 a pupil ahead of it can't", y.go(1), 2);
        due.is("10 but can a day later", y.go(1), 3);
    }

    private static void rents() {
        FogLots x = new FogLots();
        Due.tell(x, "member on 0 purse 30;member on 0 purse 5;member on 1 purse 9990;"
            + "lot 0 rent 20 owner 2;lot 1 rent 7 owner 2");
        x.go(1);
        due.is("10 pays 20", x.of(0, 3), 10);
        due.is("10 pays no more than its purse", x.of(1, 3), 0);
        due.is("10 gets 9999 at most and pays nothing to itself", x.of(2, 3), 9999);
        // By numbers: 1 is paid by 0 first and can pay 2 from that.
        FogLots y = new FogLots();
        Due.tell(y, "member on 0 purse 9;member on 1 purse 0;member on 2 purse 0;"
            + "lot 0 rent 6 owner 1;lot 1 rent 5 owner 2;lot 2 rent 3 owner 0");
        y.go(1);
        due.is("10 purse of 0", y.of(0, 3), 9 - 6 + 3);
        due.is("10 purse of 1", y.of(1, 3), 6 - 5);
        due.is("10 purse of 2", y.of(2, 3), 5 - 3);
        // One that comes in the day pays in the day; one that falls does not.
        FogLots z = new FogLots();
        Due.tell(z, "member;person on 9;member on 5;lot 0 rent 0 owner 2;lot 9 fog 0 rent 9 owner 2");
        z.go(1);
        due.is("10 came to the first of least rent", z.of(0, 1), 0);
        due.is("10 fell and paid nothing", z.of(1, 3), 50);
    }

    private static void beliefs() {
        FogLots x = new FogLots();
        Due.tell(x, "member on 0 believes 10;member on 0 believes 53;member on 0 believes 90;"
            + "member on 1 believes 20;member on 2 believes 30;member on 2 believes 33");
        x.go(1);
        int[] then = {30, 62, 90, 20, 30, 33};
        for (int person = 0; person < then.length; person++) {
            due.is("10 BELIEF of " + person, x.of(person, 2), then[person]);
        }
        FogLots y = new FogLots();
        Due.tell(y, "member on 0 believes 90;member on 0 believes 10;member on 0 believes 86;member on 0 believes 87");
        y.go(1);
        int[] thenToo = {90, 30, 87, 87};
        for (int person = 0; person < thenToo.length; person++) {
            due.is("10 BELIEF of " + person, y.of(person, 2), thenToo[person]);
        }
    }

    private static void go() {
        FogLots x = new FogLots();
        String before = Due.seen(x);
        due.is("10 go(0)", x.go(0), Due.BEYOND);
        due.is("10 go(61)", x.go(61), Due.BEYOND);
        due.is("10 go(-1)", x.go(-1), Due.BEYOND);
        due.same("10 go wrong", before, Due.seen(x));
        x.person(4);
        x.person(5);
        due.is("10 go(60)", x.go(60), 1);
        due.is("10 DAY", x.now(0), 60);
        // More calls than are promised, but the finding is of the document.
        FogLots y = new FogLots();
        for (int i = 0; i < 1666; i++) {
            y.go(60);
        }
        due.is("10 DAY 99960", y.now(0), 99960);
        due.is("10 go(40) at 99960", y.go(40), Due.STATE);
        due.is("10 go(61) at 99960", y.go(61), Due.BEYOND);
        due.is("10 DAY 99960", y.now(0), 99960);
        due.is("10 go(38) at 99960", y.go(38), 0);
        y.image();
        due.is("10 go(1) at 99998", y.go(1), 0);
        due.is("10 DAY 99999", y.now(0), 99999);
        due.is("40 undo()", y.undo(), 99998);
        due.is("26 fine(2) at 99998", y.fine(2), Due.STATE);
        due.is("26 fine(1) at 99998", y.fine(1), 0);
        due.is("10 go(1) at 99999", y.go(1), Due.STATE);
        due.is("26 fine(1) at 99999", y.fine(1), Due.STATE);
        due.is("26 fine(0) at 99999", y.fine(0), Due.BEYOND);
        due.is("43 status(4)", y.status(4), 4);
        for (int lot = 0; lot < 10; lot++) {
            y.lot(lot, 0, 50);
        }
        y.sun(3, 9);
        due.is("13 days go by still, all of them the 99999th", y.fog(0, 4), 50 - 4 * 4);
    }

    private static void now() {
        FogLots x = new FogLots();
        due.is("11 now(6), nobody", x.now(6), -1);
        due.is("11 now(5)", x.now(5), 0);
        Due.tell(x, "member on 0 purse 3;doubter purse 8;member on 9 purse 8;lot 4 fog 60 owner 1;lot 6 fog 60");
        x.change(0, 4, 5);
        x.change(2, 4, 6);
        int[] want = {0, 520, 5, 19, 11, 4, 1, 1023 - 16};
        for (int what = 0; what < 8; what++) {
            due.is("11 now(" + what + ")", x.now(what), want[what]);
        }
        x.go(2);
        due.is("11 now(0)", x.now(0), 2);
        due.is("11 now(-1)", x.now(-1), Due.BEYOND);
        due.is("11 now(8)", x.now(8), Due.BEYOND);
    }

    private static void ahead() {
        FogLots x = new FogLots();
        Due.tell(x, "person on 0 believes 40 purse 10;member on 1;lot 0 fog 45 rent 4 owner 1;sun 1 40;mist 0;sun 0 0");
        String before = Due.seen(x);
        int[][] want = {{0, 40, 10, 0}, {0, 40, 6, 0}, {-1, 30, 6, 1}};
        for (int n = 0; n < want.length; n++) {
            for (int what = 1; what <= 4; what++) {
                due.is("12 ahead(0, " + what + ", " + n + ")", x.ahead(0, what, n), want[n][what - 1]);
            }
        }
        due.is("12 ahead(1, 3, 1)", x.ahead(1, 3, 1), 54);
        due.is("12 ahead(0, 1, 100)", x.ahead(0, 1, 100), -1);
        int[][] wrong = {{-1, 1, 0}, {2, 1, 0}, {0, 0, 0}, {0, 5, 0}, {0, 1, -1}, {0, 1, 101}};
        for (int[] w : wrong) {
            due.is("12 ahead wrong", x.ahead(w[0], w[1], w[2]), Due.BEYOND);
        }
        due.same("12 ahead", before, Due.seen(x));
    }

    private static void falls() {
        FogLots x = new FogLots();
        Due.tell(x, "person on 0;member on 0;doubter on 3;doubter");
        x.sun(2, 40);
        String before = Due.seen(x);
        due.is("14 falls(0)", x.falls(0), 3);
        due.is("14 falls(1)", x.falls(1), Due.NONE);
        due.is("14 falls(2)", x.falls(2), 1);
        due.is("14 falls(3)", x.falls(3), Due.NONE);
        due.is("14 falls(4)", x.falls(4), Due.BEYOND);
        due.is("14 falls(-1)", x.falls(-1), Due.BEYOND);
        due.same("14 falls", before, Due.seen(x));
        x.change(2, 4, 9999);
        due.is("14 falls(2) at 9999", x.falls(2), Due.NONE);
        // 99 of fog and a doubter: at 1 less each day 59 is there behind 40 days.
        FogLots y = new FogLots();
        y.person(5);
        y.change(0, 1, 0);
        for (int lot = 0; lot < 10; lot++) {
            y.lot(lot, 0, 99);
        }
        y.mist(4);
        due.is("14 falls behind 40 days", y.falls(0), 40);
        horizon();
    }

    /** 99 of fog bear a doubter until the day of the one sun of 40. */
    private static void horizon() {
        FogLots x = new FogLots();
        Due.tell(x, "doubter on 0;member;doubter;sun 0 0;sun 1 0;sun 2 0;sun 3 40;sun 4 0;sun 5 0;mist 0");
        for (int days = 0; days < 4; days++) {
            x.change(0, 1, 0);
            for (int lot = 0; lot < 10; lot++) {
                x.lot(lot, 0, 99);
            }
            due.is("14 falls on the 4th day", x.falls(0), 4 - days);
            due.is("15 nobody then but the member", x.bare(), Due.NONE);
            x.go(1);
        }
        lastDay(0, 100, 100);
        lastDay(1, 101, Due.NONE);
    }

    /** Only every sixth day has a sun, of 1: so little happens that the fall is a hundred days off. */
    private static void lastDay(int more, int days, long want) {
        FogLots x = new FogLots();
        Due.tell(x, "person on 0 believes 98;sun 0 0;sun 1 0;sun 2 0;sun 3 1;sun 4 0;sun 5 0;mist 0");
        // Suns of 1 on the days 4, 10, .. 100: the 17th of them is the one that counts.
        for (int lot = 0; lot < 10; lot++) {
            x.lot(lot, 0, 11 + 16);
        }
        x.go(6 - more);
        for (int lot = 0; lot < 10; lot++) {
            x.lot(lot, 0, 11 + 16);
        }
        due.is("14 falls behind " + days, x.falls(0), want);
        due.is("15 bare behind " + days, x.bare(), want);
    }

    private static void bare() {
        FogLots x = new FogLots();
        due.is("15 bare(), nobody", x.bare(), 0);
        Due.tell(x, "person on 0;cottager on 1 believes 49;sun 1 40;mist 5");
        String before = Due.seen(x);
        due.is("15 bare()", x.bare(), 2);
        due.same("15 bare", before, Due.seen(x));
        x.person(4);
        due.is("15 bare(), a member comes", x.bare(), Due.NONE);
        FogLots y = new FogLots();
        y.person(4);
        due.is("15 bare(), now", y.bare(), 0);
    }

    private static void meet() {
        FogLots x = new FogLots();
        Due.tell(x, "member;member;member on 4;doubter;doubter");
        String before = Due.seen(x);
        due.is("16 meet(0, 1)", x.meet(0, 1), 1);
        due.is("16 meet(0, 2)", x.meet(0, 2), Due.NONE);
        due.is("16 meet(3, 4), both in boats", x.meet(3, 4), Due.NONE);
        due.is("16 meet(0, 0)", x.meet(0, 0), Due.BEYOND);
        due.is("16 meet(-1, 0)", x.meet(-1, 0), Due.BEYOND);
        due.is("16 meet(0, 5)", x.meet(0, 5), Due.BEYOND);
        due.same("16 meet", before, Due.seen(x));
        x.change(0, 1, 4);
        due.is("16 meet(2, 0), now", x.meet(2, 0), 0);
        // The doubter comes to the member's lot when the fog there is 60.
        for (int behind = 99; behind <= 101; behind++) {
            FogLots y = new FogLots();
            Due.tell(y, "member on 0;doubter;mist 1;sun 0 1;sun 1 1;sun 2 1;sun 3 1;sun 4 1;sun 5 0");
            for (int lot = 0; lot < 10; lot++) {
                y.lot(lot, 0, 60 - 17);
            }
            // 1 more on the days 6, 12, .. 102.
            y.go(102 - behind);
            due.is("16 meet(0, 1) behind " + behind, y.meet(0, 1), behind <= 100 ? behind : Due.NONE);
        }
    }
}
