/** Promises 23 to 28 at their edges. */
final class EdgesOfTold {
    private EdgesOfTold() {
    }

    static void all(Edges e) {
        findings(e, "23: fits", "fits");
        findings(e, "24: believed", "believed");
        findings(e, "25: kinds", "kinds");
        fits(e);
        beliefsOfFortyDays(e);
        kinds(e);
        fine(e);
        odds(e);
        seed(e);
    }

    private static void findings(Edges e, String promise, String name) {
        e.edge(promise + ", BEYOND: no such sheet",
            "person(4) | put(0, 8, -1) | put(3, 8, -1) | " + name + "(0 3, 0)",
            "" + name + "(-1 4 MIN MAX, 0) = BEYOND");
        e.edge(promise + ", MISSING", "person(4) | " + name + "(0..3, 0) = MISSING | put(1, 16, -1) | sheet(1, 0, 0) | "
            + name + "(1, 0) = MISSING");
        e.edge(promise + ", BEYOND: no such one", "sheet(0, 32, 0) | " + name + "(0, 0 -1) = BEYOND | people(4 4) | "
            + name + "(0, 0 1) | " + name + "(0, -1 2 8 MIN MAX) = BEYOND");
        e.edge(promise + ", MISSING is asked before BEYOND: no such one",
            name + "(0..3, 0 -1 8) = MISSING | " + name + "(4 -1, 0 8) = BEYOND");
    }

    private static void fits(Edges e) {
        e.edge("23: BELIEFS are 0 to 99: all of them",
            "person(0) | put(0, 8, -1) | fits(0, 0) = 100 | believed(0, 0) = 0");
        e.edge("23: .. none of them",
            "person(0) | put(0, 8, 0) | fits(0, 0) = 0 | believed(0, 0) = NONE | kinds(0, 0) = 0");
        e.edge("23: .. by 20, which stands, and 19, which falls",
            "person(0) | change(0, 1, 3) | put(0, 8, 3 3) | fits(0, 0) = 80 | believed(0, 0) = 20",
            "put(0, 8, 3 -1) | fits(0, 0) = 20 | believed(0, 0) = 0");
        e.edge("23: .. 99 alone",
            "person(3) | change(0, 1, 0) | fogs(20) | mist(9) | suns(9 6 9 9 9 9) | put(0, 8, 0 -1 0)",
            "fits(0, 0) = 1 | believed(0, 0) = 99");
        e.edge("23: an empty sheet tells nothing",
            "person(0) | sheet(0, 8, 0) | fits(0, 0) = 100 | believed(0, 0) = 0 | kinds(0, 0) = 127");
        e.edge("23: its LOT now is the first number",
            "person(4) | change(0, 1, 9) | put(0, 8, 9) | fits(0, 0) = 100 | put(0, 8, 8) | fits(0, 0) = 0",
            "put(0, 8, -1) | fits(0, 0) = 0",
            "put(0, 8, -2) | fits(0, 0) = 100 | change(0, 1, -1) | fits(0, 0) = 100 | put(0, 8, -1)",
            "fits(0, 0) = 100");
        e.edge("23: -1: in a boat; -2: any; other numbers are no LOT",
            "person(5) | put(0, 8, -1 -1) | fits(0, 0) = 100 | put(0, 8, -2 -2) | fits(0, 0) = 100",
            "put(0, 8, -3) | fits(0, 0) = 0 | put(0, 8, 10) | fits(0, 0) = 0 | put(0, 8, -2 10) | fits(0, 0) = 0",
            "put(0, 32, MIN) | fits(0, 0) = 0 | put(0, 32, MAX) | fits(0, 0) = 0");
        e.edge("23: .. in numbers of 8, 16 and 32 bits",
            "person(5) | put(0, 8, 255 254) | fits(0, 0) = 100 | put(0, 16, 65535 65534) | fits(0, 0) = 100",
            "put(0, 16, 255) | fits(0, 0) = 0 | put(0, 32, 65535) | fits(0, 0) = 0 | put(0, 32, -1 -2)",
            "fits(0, 0) = 100");
        e.edge("24: NONE", "person(5) | put(0, 8, -1 3) | believed(0, 0) = NONE | of(0, 2) = 50");
    }

    /** Fog is 1 less on the days 3, 9, .. 39; the last of 40 numbers is behind the 39th. */
    private static void beliefsOfFortyDays(Edges e) {
        String days = "person(0) | change(0, 1, 0) | suns(5 5 6 5 5 5) | sheet(0, 8, 40)";
        e.edge("23: .. behind each DAY further on, to the last of 40 numbers", days,
            "fits(0, 0) = 66 | believed(0, 0) = 34 | write(0, 39, -1) | fits(0, 0) = 2 | believed(0, 0) = 32",
            "write(0, 39, -2) | fits(0, 0) = 68 | believed(0, 0) = 32 | now(0) = 0 | of(0, 1 2) = 0 50");
        e.edge("24: .. likewise, NONE by the last number alone", days,
            "write(0, 39, 1) | fits(0, 0) = 0 | believed(0, 0) = NONE");
        e.edge("25: .. likewise",
            days, "fogs(41) | kinds(0, 0) = 0b1010010 | write(0, 39, -1) | kinds(0, 0) = 0b0000001",
            "write(0, 39, -2) | kinds(0, 0) = 0b1010011 | of(0, 0) = 0");
    }

    private static void kinds(Edges e) {
        e.edge("25: KINDS as a set: all, and none",
            "person(0) | put(0, 8, -1) | kinds(0, 0) = 127 | put(0, 8, 3) | kinds(0, 0) = 0");
        e.edge("25: .. the first one",
            "person(6) | change(0, 1, 0) | fogs(35) | put(0, 8, 0 -1) | kinds(0, 0) = 0b0101100",
            "suns(5 6 5 5 5 5) | put(0, 8, 0 0 -1) | kinds(0, 0) = 0b0000001");
        e.edge("25: .. the last one, and the one before it",
            "person(0) | lot(1, 0, 99) | put(0, 8, -1 0) | lot(0, 1, 1) | kinds(0, 0) = 0b1000000",
            "fogs(59) | put(0, 8, -1 -1) | kinds(0, 0) = 0b0100000");
    }

    private static void fine(Edges e) {
        e.edge("26: n is 1 to 20",
            "fine(0 -1 21 MIN MAX) = BEYOND | count(0 6) = 0 1 | fine(1) = 0 | count(0 6) = 1 -1770082073",
            "seed(1) | fine(20) = 0 | count(0) = 21");
        e.edge("26: .. two draws for each of 20", "fine(20) = 0 | count(0 6) = 20 1775811865");
        e.edge("26: a SUN that is the rest by 41, the LOT of the rest by 10: the least of both",
            "person(0) | lot(0..9, 2, 0) | seed(194) | fine(1) | sun(0, 9) = 0 | now(7) = 0b0000000001",
            "sun(1..5, 5) = 5");
        e.edge("26: .. the most of both",
            "person(0) | lot(0..9, 2, 0) | seed(397) | fine(1) | sun(0, 9) = 40 | now(7) = 0b1000000000",
            "sun(1..5, 5) = 5");
        e.edge("26: .. a LOT without an OWNER has none", "seed(194) | fine(1) = 0 | now(7) = 1023");
        e.edge("26: THE LIST tells it for the next DAY: that of the place DAY modulo 6, with no mist to hide it",
            "mist(0) | fine(1) | lotOf(0..9, 0) = 13");
        e.edge("26: .. from the last place to the first one",
            "go(5) | fine(2) | sun(0..5, 5) = 6 5 5 5 5 37");
        e.edge("26: those ON LOTS then, as a set: none, and all",
            "people(4 4 4 4 4 4 4 4) | fine(1) = 255 | fine(20) = 255 | change(0..7, 0, 5) | fogs(0) | mist(0)",
            "fine(1) = 0");
        e.edge("26: STATE: DAY would be above 99999",
            "days(99979) | fine(20) = 0 | now(0) = 99999 | fine(1 20) = STATE | now(0) = 99999");
        e.edge("26: .. by one, and then no draw is made",
            "days(99980) | fine(20) = STATE | count(0 6) = 99980 1 | sun(2, 5) = 5 | fine(19) = 0 | now(0) = 99999");
        e.edge("26: BEYOND is asked before STATE", "days(99999) | fine(0 21) = BEYOND | fine(1) = STATE");
    }

    private static void odds(Edges e) {
        e.edge("27: one of PEOPLE",
            "odds(0 -1, 0, 0) = BEYOND | people(4 5) | odds(0 1, 1, 0) = 1 0 | odds(-1 2 8 MIN MAX, 1, 0) = BEYOND");
        e.edge("27: n is 0 to 18", "person(4) | odds(0, 0 18, 0 1) = 1 | odds(0, -1 19 MIN MAX, 0 1) = BEYOND");
        e.edge("27: what is 0 or 1", "person(4) | odds(0, 18, 0 1) = 1 | odds(0, 18, -1 2 MIN MAX) = BEYOND");
        e.edge("27: of no LOTS the odds are 1, even for one who STANDS nowhere", "person(5) | odds(0, 0, 0 1) = 1");
        e.edge("27: in lowest terms: 0", "person(5) | odds(0, 1, 0 1) = 0 1 | odds(0, 18, 0 1) = 0 1");
        e.edge("27: .. 1", "person(5) | fogs(60) | odds(0, 1 18, 0 1) = 1");
        e.edge("27: .. of each number of LOTS",
            "person(5) | lot(0, 0, 60) | odds(0, 2, 0 1) = 1 100 | lot(1, 0, 60) | odds(0, 2, 0 1) = 1 25",
            "lot(2, 0, 60)",
            "odds(0, 2, 0 1) = 9 100 | lot(3, 0, 60) | odds(0, 2, 0 1) = 4 25 | lot(4, 0, 60) | odds(0, 2, 0 1) = 1 4",
            "lot(5, 0, 60) | odds(0, 2, 0 1) = 9 25 | lot(6, 0, 60) | odds(0, 2, 0 1) = 49 100 | lot(7, 0, 60)",
            "odds(0, 2, 0 1) = 16 25 | lot(8, 0, 60) | odds(0, 2, 0 1) = 81 100 | lot(9, 0, 60) | odds(0, 2, 0 1) = 1");
        e.edge("27: .. that need a long",
            "person(5) | lot(0..8, 0, 60) | odds(0, 18, 0) = 150094635296999121 | odds(0, 18, 1) = 1000000000000000000",
            "odds(0, 10, 0 1) = 3486784401 10000000000 | lot(0..7, 0, 59) | odds(0, 18, 0 1) = 1 1000000000000000000");
        e.edge("27: STAND now: 60 do, 59 don't; no draw is made",
            "person(5) | fogs(60 59 59 59 59 59 59 59 59 59) | odds(0, 1, 0 1) = 1 10 | count(6) = 1");
    }

    private static void seed(Edges e) {
        e.edge("28: z becomes any v",
            "seed(0) = 1 | seed(MIN) = 0 | seed(MAX) = MIN | seed(-1) = MAX | seed(1) = -1 | count(6) = 1");
        e.edge("28: a z that looks like a finding is none",
            "seed(-1000001) = 1 | count(6) = -1000001 | seed(-1000007) = -1000001 | count(6) = -1000007",
            "seed(1) = -1000007");
    }
}
