/** Promises 10 to 16 at their edges. */
final class EdgesOfDays {
    private EdgesOfDays() {
    }

    static void all(Edges e) {
        go(e);
        now(e);
        ahead(e);
        falls(e);
        bare(e);
        meet(e);
    }

    private static void go(Edges e) {
        e.edge("10: n is 1 to 60",
            "go(0 -1 61 MIN MAX) = BEYOND | now(0) = 0 | go(1) = 0 | now(0) = 1 | go(60) = 0 | now(0) = 61");
        e.edge("10: those ON LOTS then, as a set: none, and all",
            "go(1) = 0 | people(4 4 4 4 4 4 4 4) | go(1) = 255 | change(0..7, 0, 5) | go(1) = 0");
        e.edge("10: STATE: DAY would be above 99999",
            "days(99939) | go(60) = 0 | now(0) = 99999 | go(1) = STATE | go(60) = STATE | now(0) = 99999");
        e.edge("10: .. by one", "days(99940) | go(60) = STATE | now(0) = 99940 | go(59) = 0 | now(0) = 99999");
        e.edge("10: BEYOND is asked before STATE", "days(99999) | go(0 61 -1 MIN MAX) = BEYOND | go(1) = STATE");
    }

    private static void now(Edges e) {
        e.edge("11: what is 0 to 7", "now(0..7) = 0 500 0 0 0 0 -1 1023 | now(-1 8 MIN MAX) = BEYOND");
        e.edge("11: 1 FOG of all LOTS together: the least and the most",
            "fogs(0) | now(1) = 0 | fogs(99) | now(1) = 990");
        e.edge("11: 2 those ON LOTS, as a set: none, and all",
            "people(0 0 0 0 0 0 0 0) | now(2) = 0 | change(0..7, 1, 9) | now(2) = 255 | change(0, 1, -1)",
            "now(2) = 254");
        e.edge("11: 3 PURSES together, 4 FELL of all together: of nobody, the least and the most",
            "now(3 4) = 0 | people(0 0 0 0 0 0 0 0) | change(0..7, 3 4, 9999) | now(3 4) = 79992",
            "change(0..7, 3 4, 0) | now(3 4) = 0 | change(7, 3 4, 1) | now(3 4) = 1");
        e.edge("11: 5 the LOT of most FOG: of none, of all as much",
            "fogs(0) | now(5) = 0 | lot(9, 0, 1) | now(5) = 9 | fogs(99) | now(5) = 0");
        e.edge("11: 6 who is richest (-1: there is nobody)",
            "now(6) = -1 | person(0) | change(0, 3, 0) | now(6) = 0 | people(0 0 0 0 0 0 0) | change(1..7, 3, 0)",
            "now(6) = 0",
            "change(7, 3, 1) | now(6) = 7 | change(6, 3, 1) | now(6) = 6");
        e.edge("11: 7 LOTS without an OWNER, as a set: all, and none",
            "now(7) = 1023 | person(0) | lot(0..9, 2, 0) | now(7) = 0 | lot(9, 2, -1) | now(7) = 512");
    }

    private static void ahead(Edges e) {
        e.edge("12: one of PEOPLE",
            "ahead(0 -1, 1, 0) = BEYOND | people(4 5) | ahead(0 1, 1, 1) = 0 -1",
            "ahead(-1 2 8 MIN MAX, 1, 1) = BEYOND");
        e.edge("12: what is 1 to 4",
            "person(5) | change(0, 1, 0) | ahead(0, 1..4, 1) = -1 30 50 1 | ahead(0, 0 5 -1 6 7 MIN MAX, 1) = BEYOND");
        e.edge("12: n is 0 to 100: as now behind none",
            "person(5) | change(0, 1, 3) | change(0, 3, 7) | change(0, 4, 9) | ahead(0, 1..4, 0) = 3 50 7 9",
            "ahead(0, 1..4, -1 101 MIN MAX) = BEYOND");
        // 1 less on the days 4, 10, .. 100: it falls on the 100th, by the 17th.
        e.edge("12: .. and the last of 100 counts",
            "person(5) | change(0, 1, 3) | fogs(76) | suns(5 5 5 6 5 5) | ahead(0, 1, 99 100) = 3 -1",
            "ahead(0, 4, 99 100) = 0 1",
            "ahead(0, 2, 99 100) = 50 30");
        e.edge("12: nothing changes",
            "people(5 4) | change(0, 1, 3) | ahead(0, 1 2, 100) = -1 30 | of(0, 1 2 4) = 3 50 0 | now(0) = 0");
        e.edge("13: a LOT is 0 to 9", "fog(0 9, 0) = 50 | fog(-1 10 MIN MAX, 0) = BEYOND");
        e.edge("13: n is 0 to 100",
            "fogs(76) | suns(5 5 5 6 5 5) | fog(0 9, 0) = 76 | fog(0 9, 99) = 60 | fog(0 9, 100) = 59",
            "fog(0 9, -1 101 MIN MAX) = BEYOND",
            "lotOf(0 9, 0) = 76 | now(0) = 0");
    }

    private static void falls(Edges e) {
        e.edge("14: one of PEOPLE",
            "falls(0 -1) = BEYOND | people(4 5) | change(1, 1, 0) | falls(1) = 1 | falls(-1 2 8 MIN MAX) = BEYOND");
        e.edge("14: behind 1 at the fewest",
            "person(5) | change(0, 1, 0) | change(0, 4, 5) | falls(0) = 1 | of(0, 4) = 5");
        e.edge("14: behind 100 at the most",
            "person(5) | change(0, 1, 3) | fogs(76) | suns(5 5 5 6 5 5) | falls(0) = 100");
        e.edge("14: NONE, behind 101",
            "person(5) | change(0, 1, 3) | fogs(76) | suns(5 5 5 5 6 5) | falls(0) = NONE | go(1) = 1",
            "falls(0) = 100");
        e.edge("14: NONE, never", "people(4 5) | change(0, 1, 0) | falls(0 1) = NONE");
        e.edge("14: NONE: more often than 9999 there isn't",
            "person(5) | change(0, 1, 0) | change(0, 4, 9998) | falls(0) = 1 | change(0, 4, 9999) | falls(0) = NONE");
        e.edge("14: from a boat, too: it comes and falls",
            "person(5) | fogs(60) | suns(5 5 6 5 5 5) | falls(0) = 3");
    }

    private static void bare(Edges e) {
        e.edge("15: behind 0 at the fewest: nobody at all", "bare() = 0");
        e.edge("15: .. nobody ON a LOT now, though one comes", "person(4) | bare() = 0 | go(1) = 1 | bare() = NONE");
        e.edge("15: .. behind 1", "people(5 5) | change(0 1, 1, 0) | bare() = 1");
        e.edge("15: behind 100 at the most",
            "person(5) | change(0, 1, 3) | fogs(76) | suns(5 5 5 6 5 5) | bare() = 100");
        e.edge("15: NONE, behind 101",
            "person(5) | change(0, 1, 3) | fogs(76) | suns(5 5 5 5 6 5) | bare() = NONE | now(0) = 0");
    }

    private static void meet(Edges e) {
        e.edge("16: two of PEOPLE",
            "meet(0, 1) = BEYOND | people(4 4) | meet(0, 1) = 1 | meet(1, 0) = 1",
            "meet(0, -1 2 8 MIN MAX) = BEYOND | meet(-1 2 8 MIN MAX, 0) = BEYOND");
        e.edge("16: BEYOND: also one and the same",
            "people(4 4) | change(0 1, 1, 3) | meet(0, 0) = BEYOND | meet(1, 1) = BEYOND | meet(0, 1) = 0");
        e.edge("16: behind 0 at the fewest",
            "people(4 4) | change(0 1, 1, 9) | meet(0, 1) = 0 | meet(1, 0) = 0 | change(0 1, 1, 0) | meet(0, 1) = 0");
        // Fog is 1 more on the days 4, 10, .. 100; the doubter comes when it is 60.
        e.edge("16: behind 100 at the most",
            "people(4 5) | change(0, 1, 0) | fogs(43) | suns(5 5 5 4 5 5) | meet(0, 1) = 100 | meet(1, 0) = 100",
            "now(0) = 0");
        e.edge("16: NONE, behind 101",
            "people(4 5) | change(0, 1, 0) | fogs(43) | suns(5 5 5 5 4 5) | meet(0, 1) = NONE | go(1) = 1",
            "meet(0, 1) = 100");
        e.edge("16: NONE: two in boats are ON no LOT", "people(5 5) | meet(0, 1) = NONE");
        e.edge("16: BEYOND is asked before NONE",
            "people(5 5) | meet(0, 0) = BEYOND | meet(0, 2) = BEYOND | meet(0, 1) = NONE");
    }
}
