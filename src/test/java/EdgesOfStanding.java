/** Promises 17 to 22 at their edges. */
final class EdgesOfStanding {
    private EdgesOfStanding() {
    }

    static void all(Edges e) {
        beliefFor(e);
        settle(e);
        kindFor(e);
        rentFor(e);
        sunFor(e);
        away(e);
        awayOfEight(e);
    }

    private static void beliefFor(Edges e) {
        e.edge("17: one of PEOPLE",
            "beliefFor(0 -1, 0) = BEYOND | people(4 5) | beliefFor(0 1, 0) = 0",
            "beliefFor(-1 2 8 MIN MAX, 0) = BEYOND");
        e.edge("17: n is 0 to 40",
            "person(4) | change(0, 1, 0) | beliefFor(0, 0 40) = 0 | beliefFor(0, -1 41 MIN MAX) = BEYOND");
        e.edge("17: behind no DAY any BELIEF will do",
            "person(5) | change(0, 1, 0) | beliefFor(0, 0) = 0 | beliefFor(0, 1) = NONE");
        // 1 less each day: 50 - 39 and 49 are 60, 50 - 40 and 49 are not.
        e.edge("17: .. the last of 40 DAYS counts",
            "person(0) | change(0, 1, 0) | mist(4) | fogs(50) | beliefFor(0, 39) = 98 | beliefFor(0, 40) = NONE",
            "fogs(51) | beliefFor(0, 39 40) = 96 98 | of(0, 2) = 50 | now(0) = 0");
        e.edge("17: the least BELIEF: 0, and what is just enough",
            "person(0) | change(0, 1, 0) | fogs(60) | beliefFor(0, 1) = 0 | fogs(59) | beliefFor(0, 1) = 2",
            "fogs(11) | beliefFor(0, 1) = 98 | fogs(10) | beliefFor(0, 1) = NONE");
        e.edge("17: .. an odd one, by what another one beside it believes",
            "people(0 4) | change(0 1, 1, 0) | change(1, 2, 99) | fogs(13) | suns(5 6 5 5 5 5) | beliefFor(0, 1) = 94",
            "beliefFor(0, 2) = 95");
        e.edge("17: as now: also when it FELL before, or will not count",
            "person(5) | change(0, 1, 0) | change(0, 4, 9998) | beliefFor(0, 1) = NONE | change(0, 4, 9999)",
            "beliefFor(0, 40) = 0");
        e.edge("17: .. it FELL before",
            "person(0) | change(0, 1, 0) | change(0, 4, 3) | beliefFor(0, 1) = 20 | of(0, 4) = 3");
        e.edge("17: BEYOND is asked before NONE",
            "person(5) | change(0, 1, 0) | beliefFor(0, 41) = BEYOND | beliefFor(1, 40) = BEYOND",
            "beliefFor(0, 40) = NONE");
    }

    private static void settle(Edges e) {
        e.edge("18: one of PEOPLE",
            "settle(0 -1, 0) = BEYOND | people(4 5) | settle(0 1, 0) = 0 | settle(-1 2 8 MIN MAX, 0) = BEYOND");
        e.edge("18: n is 0 to 40", "person(4) | settle(0, 0 40) = 0 | settle(0, -1 41 MIN MAX) = BEYOND");
        e.edge("18: behind no DAY any LOT will do",
            "person(5) | fogs(0 0 0 0 0 0 0 0 0 99) | settle(0, 0) = 0 | settle(0, 1) = 9 | of(0, 1) = -1");
        // The mayor falls from lots that aren't its own when the fog is below 60, or 59.
        e.edge("18: .. the last of 40 DAYS counts, and none behind it",
            "person(3) | lot(5, 2, 0) | mist(4) | fogs(99) | change(0, 2, 20) | settle(0, 39) = 0 | settle(0, 40) = 5",
            "change(0, 2, 22) | settle(0, 40) = 0 | now(0) = 0 | of(0, 1) = -1");
        e.edge("18: the LOT: the first and the last one",
            "person(3) | fogs(30) | lot(9, 2, 0) | settle(0, 1) = 9 | lot(0, 2, 0) | settle(0, 1) = 0");
        e.edge("18: FELL is least, if it isn't 0, and 9999 at most",
            "person(5) | change(0, 4, 7) | settle(0, 40) = 0 | fogs(0 0 0 99 99 99 0 0 0 0) | settle(0, 1) = 3",
            "change(0, 4, 9998) | settle(0, 1) = 3 | change(0, 4, 9999) | settle(0, 1) = 0");
    }

    private static void kindFor(Edges e) {
        e.edge("19: one of PEOPLE",
            "kindFor(0 -1, 0) = BEYOND | people(4 5) | kindFor(0 1, 0) = 0 | kindFor(-1 2 8 MIN MAX, 0) = BEYOND");
        e.edge("19: n is 0 to 40", "person(4) | kindFor(0, 0 40) = 0 | kindFor(0, -1 41 MIN MAX) = BEYOND");
        e.edge("19: behind no DAY any KIND will do",
            "people(4 4) | change(0, 1, 0) | lot(0, 1, 5) | lot(0, 2, 1) | kindFor(0, 0) = 0 | kindFor(0, 1) = 5",
            "of(0, 0) = 4");
        // A doubter falls, and saves a rent, when the fog is below 60: 1 less on each day but 1, 7, .. 37.
        e.edge("19: .. the last of 40 DAYS counts, and none behind it",
            "people(0 4) | change(0, 1, 0) | lot(0, 1, 1) | lot(0, 2, 1) | mist(4) | suns(4 5 5 5 5 5)",
            "fogs(92) | kindFor(0, 39) = 0 | kindFor(0, 40) = 5 | fogs(93) | kindFor(0, 40) = 0 | now(0) = 0");
        // Only a pupil doesn't make for a lot by its fog or its rent.
        e.edge("19: the last KIND",
            "people(0 4) | lot(1..9, 2, 1) | lot(1..9, 1, 9) | lot(0, 1, 10) | lot(9, 0, 60) | kindFor(0, 1) = 5",
            "lot(8, 0, 67) | kindFor(0, 1) = 6");
        e.edge("19: its PURSE is most: 0 of all KINDS, 9999 of all KINDS",
            "people(0 4) | change(0, 3, 0) | lot(0..9, 2, 1) | lot(0..9, 1, 20) | fogs(60) | kindFor(0, 40) = 0",
            "lot(0..9, 2, 0) | change(0, 3, 9999) | kindFor(0, 40) = 0");
    }

    private static void rentFor(Edges e) {
        String bank = "people(4 4) | change(0, 1, 0) | change(1, 1, 1) | lot(0, 2, 1)";
        e.edge("20: a LOT is 0 to 9",
            "person(4) | lot(0 9, 2, 0) | rentFor(0 9, 1) = 0 | rentFor(-1 10 MIN MAX, 1) = BEYOND");
        e.edge("20: n is 0 to 40",
            bank, "rentFor(0, 0) = 0 | rentFor(0, 1) = 20 | rentFor(0, 40) = 2 | rentFor(0, -1 41 MIN MAX) = BEYOND");
        e.edge("20: .. the last of 40 DAYS counts, and none behind it", bank,
            "change(0, 3, 40) | rentFor(0, 39) = 2 | rentFor(0, 40) = 1 | change(0, 3, 41) | rentFor(0, 40) = 2",
            "lotOf(0, 1) = 0");
        e.edge("20: RENT is 0 to 20: the most that is of use", bank,
            "change(0, 3, 9999) | rentFor(0, 1) = 20 | change(0, 3, 20) | rentFor(0, 1) = 20 | change(0, 3, 19)",
            "rentFor(0, 1) = 19",
            "change(0, 3, 1) | rentFor(0, 1) = 1 | change(0, 3, 0) | rentFor(0, 1) = 0");
        e.edge("20: .. for a PURSE of 9999 at most", bank,
            "change(1, 3, 9999) | rentFor(0, 1) = 0 | change(1, 3, 9998) | rentFor(0, 1) = 1 | change(1, 3, 9980)",
            "rentFor(0, 1) = 19",
            "change(1, 3, 9979) | rentFor(0, 1) = 20");
        e.edge("20: .. ON a LOT where nobody pays",
            "people(4 4) | lot(9, 2, 1) | lot(9, 1, 7) | rentFor(9, 40) = 0 | lotOf(9, 1) = 7");
        e.edge("20: .. not so much that one makes for another LOT",
            "people(4 4) | change(1, 1, 9) | lot(1..9, 1, 7) | lot(0, 2, 1) | rentFor(0, 1) = 7 | lot(3, 1, 4)",
            "rentFor(0, 1) = 4 | lot(3, 1, 0) | rentFor(0, 1) = 0");
        e.edge("20: NONE: it has none", bank, "rentFor(1..9, 0 40) = NONE | lot(0, 2, -1) | rentFor(0, 5) = NONE");
        e.edge("20: BEYOND is asked before NONE",
            "rentFor(0, -1 41) = BEYOND | rentFor(10, 0) = BEYOND | rentFor(0, 0) = NONE");
    }

    private static void sunFor(Edges e) {
        e.edge("21: n is 0 to 40", "sunFor(0 40) = 40 | sunFor(-1 41 MIN MAX) = BEYOND");
        e.edge("21: behind no DAY any SUN will do", "person(5) | change(0, 1, 0) | sunFor(0) = 40 | sunFor(1) = NONE");
        // A trust of 0 or 1, and 39 or 40 of fog to spare.
        e.edge("21: .. the last of 40 DAYS counts, and none behind it",
            "person(0) | change(0, 1, 0) | fogs(99) | change(0, 2, 0) | sunFor(39) = 6 | sunFor(40) = 5",
            "change(0, 2, 2) | sunFor(40) = 6 | sun(0..5, 5) = 5 | now(0) = 0");
        e.edge("21: v is 0 to 40: the greatest one",
            "person(5) | change(0, 1, 0) | fogs(99) | mist(0) | sunFor(1) = 39 | mist(1) | sunFor(1) = 40",
            "mist(40) | sunFor(40) = 40");
        e.edge("21: .. and the least one, and NONE below it",
            "person(5) | change(0, 1, 0) | fogs(60) | mist(0) | sunFor(40) = 0 | fogs(59) | sunFor(40) = NONE",
            "sunFor(1) = NONE");
        e.edge("21: all six SUNS are v: whatever THE LIST tells, for each place of it",
            "person(5) | change(0, 1, 0) | fogs(99) | mist(0) | suns(40 0 40 0 40 0) | sunFor(6) = 6",
            "suns(0 40 0 40 0 40) | sunFor(6) = 6",
            "suns(40) | sunFor(3) = 13 | sun(0..5, 40) = 40");
        e.edge("21: FELL of all together: also when one of them falls, and not when it can't count",
            "people(4 5 5) | change(0..2, 1, 0) | fogs(60) | change(1 2, 4, 9999) | sunFor(1) = 40",
            "change(2, 4, 9998) | sunFor(1) = 5",
            "change(1 2, 1, -1) | sunFor(1) = 40");
        e.edge("21: BEYOND is asked before NONE",
            "person(5) | change(0, 1, 0) | sunFor(41 -1) = BEYOND | sunFor(40) = NONE");
    }

    private static void away(Edges e) {
        e.edge("22: one of PEOPLE",
            "away(0 -1, 0) = BEYOND | people(4 4) | change(0 1, 1, 0) | away(0 1, 0) = 0",
            "away(-1 2 8 MIN MAX, 0) = BEYOND");
        e.edge("22: n is 0 to 12",
            "person(4) | change(0, 1, 0) | away(0, 0 12) = 0 | away(0, -1 13 40 MIN MAX) = BEYOND");
        e.edge("22: behind no DAY: as it is now, whoever is away",
            "people(5 4) | away(0 1, 0) = NONE | change(0, 1, 0) | fogs(0) | away(0, 0) = 0 | away(0, 1) = NONE");
        e.edge("22: .. the last of 12 DAYS counts, and none behind it",
            "person(5) | change(0, 1, 0) | mist(4) | fogs(71) | away(0, 11) = 0 | away(0, 12) = NONE | fogs(72)",
            "away(0, 12) = 0 | now(0) = 0");
        e.edge("22: alone: nobody must be away, or NONE",
            "people(5) | away(0, 1 12) = NONE | fogs(60) | away(0, 1 12) = 0");
        // Beside two the pupil stands on the 1st day, falls on the 2nd; else it is back on the 2nd.
        String pupil = "people(6 4 4 5) | change(0..2, 1, 0) | change(0..3, 2, 0) | suns(5 13 5 5 5 5)";
        e.edge("22: the fewest: none", pupil, "fogs(38 38 38 38 38 38 38 99 99 99) | away(0, 1) = 0 | away(0, 3) = 0");
        e.edge("22: .. one: of several the least", pupil, "fogs(36 36 36 36 36 36 36 99 99 99) | away(0, 2) = 0b0010");
        e.edge("22: .. two",
            pupil, "fogs(38 38 38 38 38 38 38 99 99 99) | away(0, 2) = 0b0110 | of(0..3, 1) = 0 0 0 -1");
        e.edge("22: .. fewer ones count before lesser ones",
            "people(4 4 4 6) | change(0..3, 1, 0) | change(0 1 3, 2, 0) | change(2, 2, 99) | suns(5 30 18 5 5 5)",
            "fogs(50 50 50 50 50 50 50 99 99 99) | away(3, 3) = 0b0100");
        e.edge("22: .. those away are ON no LOT, then, too: they neither come nor fall",
            "people(4 6) | change(1, 2, 0) | fogs(38) | away(1, 1) = 0 | away(1, 12) = 0 | change(0, 1, 5)",
            "away(1, 1) = 0");
        e.edge("22: BEYOND is asked before NONE",
            "person(5) | away(0, 13) = BEYOND | away(1, 12) = BEYOND | away(0, 12) = NONE");
    }

    private static void awayOfEight(Edges e) {
        String beside = "change(0..7, 1, 0) | change(0..7, 2, 0) | suns(5 18 5 5 5 5)";
        e.edge("22: all seven others of the first one",
            "people(6 4 4 4 4 4 4 4) | " + beside, "fogs(38 38 38 38 38 38 38 99 99 99) | away(0, 2) = 0b11111110",
            "fogs(37 37 37 37 37 37 37 99 99 99) | away(0, 2) = 0b01111110");
        e.edge("22: all seven others of the last one",
            "people(4 4 4 4 4 4 4 6) | " + beside, "fogs(38 38 38 38 38 38 38 99 99 99) | away(7, 2) = 0b01111111",
            "fogs(37 37 37 37 37 37 37 99 99 99) | away(7, 2) = 0b00111111");
    }
}
