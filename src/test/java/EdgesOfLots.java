/** Promises 1 to 9 at their edges. */
final class EdgesOfLots {
    private EdgesOfLots() {
    }

    static void all(Edges e) {
        newObject(e);
        lot(e);
        lotOf(e);
        sunAndMist(e);
        person(e);
        of(e);
        change(e);
        trust(e);
    }

    private static void newObject(Edges e) {
        e.edge("1: all as at first",
            "lotOf(0..9, 0) = 50 | lotOf(0..9, 1) = 0 | lotOf(0..9, 2) = -1 | sun(0..5, 5) = 5 | mist(5) = 5",
            "count(0..7) = 0 0 0 0 0 0 1 0 | now(0..7) = 0 500 0 0 0 0 -1 1023 | as(0..9, 0) = MISSING");
        e.edge("1: nobody",
            "of(0 7 -1, 0) = BEYOND | lotOf(0..9, 3 4) = 0 | lot(0, 2, 0) = BEYOND | hold(0, 0) = BEYOND",
            "bare() = 0 | sunFor(40) = 40 | go(60) = 0");
        e.edge("1: THE TAPE is empty", "wipe() = 0 | count(5) = 0 | text() = FAULT@0");
        e.edge("1: no image is kept", "undo() = NONE | tear() = 0");
        e.edge("1: SHEETS are MISSING at first",
            "load(0..3) = MISSING | judge(0..3) = MISSING | write(0..3, 0, 0) = MISSING",
            "copy(0..3, 0, 0..3, 0, 0) = MISSING");
        e.edge("1: status() tells nothing", "status(-1 0 1 2 3 4 5 6) = 0");
    }

    private static void lot(Edges e) {
        e.edge("2: a LOT is 0 to 9",
            "lot(0 9, 0, 7) = 50 | lot(-1 10 11 MIN MAX, 0, 7) = BEYOND | lotOf(0..9, 0) = 7 50 50 50 50 50 50 50 50 7",
            "lot(-1 10 MIN MAX, 1 2, 0 -1) = BEYOND");
        e.edge("2: what is 0 to 2", "lot(3, 0, 0) = 50 | lot(3, 1, 0) = 0 | lot(3, 2, -1) = -1",
            "lot(3, -1 3 4 MIN MAX, 0) = BEYOND | lotOf(3, 0 1 2) = 0 0 -1");
        e.edge("2: FOG is 0 to 99",
            "lot(3, 0, 0) = 50 | lot(3, 0, -1 MIN) = BEYOND | lotOf(3, 0) = 0",
            "lot(3, 0, 99) = 0 | lot(3, 0, 100 MAX) = BEYOND | lotOf(3, 0) = 99 | lot(3, 0, 50) = 99");
        e.edge("2: RENT is 0 to 20",
            "lot(3, 1, 20) = 0 | lot(3, 1, 21 MAX) = BEYOND | lotOf(3, 1) = 20",
            "lot(3, 1, 0) = 20 | lot(3, 1, -1 MIN) = BEYOND | lotOf(3, 1) = 0");
        e.edge("2: OWNER is one of PEOPLE or -1: of nobody only -1",
            "lot(3, 2, 0 1 7 8 MAX) = BEYOND | lot(3, 2, -1) = -1 | lot(3, 2, -2 MIN) = BEYOND");
        e.edge("2: .. of one", "person(5) | lot(3, 2, 0) = -1 | lot(3, 2, 1 7 8 -2) = BEYOND | lotOf(3, 2) = 0",
            "lot(3, 2, -1) = 0 | lotOf(3, 2) = -1");
        e.edge("2: .. of eight",
            "people(0 0 0 0 0 0 0 0) | lot(3, 2, 7) = -1 | lot(3, 2, 8 MAX) = BEYOND | lotOf(3, 2) = 7",
            "lot(3, 2, 0) = 7");
    }

    private static void lotOf(Edges e) {
        e.edge("3: a LOT is 0 to 9", "lotOf(0 9, 0) = 50 | lotOf(-1 10 MIN MAX, 0..4) = BEYOND");
        e.edge("3: what is 0 to 4", "lotOf(9, 0..4) = 50 0 -1 0 0 | lotOf(9, -1 5 MIN MAX) = BEYOND");
        e.edge("3: those ON it, as a set: none, and all",
            "people(0 1 2 3 4 5 6 0) | lotOf(0..9, 3) = 0 | change(0..7, 1, 9)",
            "lotOf(0..9, 3) = 0 0 0 0 0 0 0 0 0 255",
            "change(0, 1, 0) | lotOf(0 9, 3) = 1 254 | change(7, 1, -1) | lotOf(9, 3) = 126");
        e.edge("3: those who would STAND on it now, as a set: none, and all, ON it or not",
            "people(0 1 2 3 5 6 0 0) | fogs(0) | lotOf(0 9, 4) = 0 | fogs(60) | lotOf(0 9, 4) = 255",
            "change(0..7, 1, 9) | lotOf(0 9, 4) = 255 | fogs(0) | lotOf(0 9, 4) = 0");
    }

    private static void sunAndMist(Edges e) {
        e.edge("4: a place is 0 to 5",
            "sun(0 5, 9) = 5 | sun(-1 6 MIN MAX, 9) = BEYOND | sun(0..5, 5) = 9 5 5 5 5 9");
        e.edge("4: a SUN is 0 to 40",
            "sun(2, 40) = 5 | sun(2, 41 MAX) = BEYOND | sun(2, 0) = 40 | sun(2, -1 MIN) = BEYOND | sun(2, 5) = 0");
        e.edge("5: MIST is 0 to 40",
            "mist(40) = 5 | mist(41 MAX) = BEYOND | mist(0) = 40 | mist(-1 MIN) = BEYOND | mist(5) = 0");
    }

    private static void person(Edges e) {
        e.edge("6: a KIND is 0 to 6",
            "person(-1 7 8 MIN MAX) = BEYOND | count(1) = 0 | person(0) = 0 | person(6) = 1 | of(0..1, 0) = 0 6");
        e.edge("6: a new one, at first",
            "person(5) = 0 | of(0, 0..7) = 5 -1 50 50 0 20 -1 0");
        e.edge("6: PEOPLE are at most 8",
            "person(0..6) = 0..6 | person(0) = 7 | person(0..6) = FULL | count(1) = 8 | of(7, 0) = 0",
            "of(8, 0) = BEYOND");
        e.edge("6: BEYOND is asked before FULL",
            "people(0 0 0 0 0 0 0 0) | person(-1 7 MIN MAX) = BEYOND | person(0) = FULL");
    }

    private static void of(Edges e) {
        e.edge("7: one of PEOPLE: of nobody none", "of(-1 0 1 7 8 MIN MAX, 0) = BEYOND");
        e.edge("7: .. of one", "person(3) | of(0, 0) = 3 | of(-1 1 8 MIN MAX, 0..7) = BEYOND");
        e.edge("7: .. of eight", "people(0 1 2 3 4 5 6 6) | of(0..7, 0) = 0 1 2 3 4 5 6 6 | of(8 -1, 0) = BEYOND");
        e.edge("7: what is 0 to 7", "person(4) | of(0, 0..7) = 4 -1 50 50 0 0 0 0 | of(0, -1 8 MIN MAX) = BEYOND");
        e.edge("7: 1 LOT (-1: in a boat)",
            "person(4) | of(0, 1) = -1 | change(0, 1, 0) | of(0, 1) = 0 | change(0, 1, 9) | of(0, 1) = 9");
        e.edge("7: 6 the LOT that it MAKES FOR now (-1: none), also when it is ON one",
            "person(5) | of(0, 6) = -1 | lot(9, 0, 60) | of(0, 6) = 9 | change(0, 1, 3) | of(0, 6) = 9",
            "lot(0, 0, 60) | of(0, 6) = 0 | lot(0 9, 0, 59) | of(0, 6) = -1");
        e.edge("7: 7 LOTS that it OWNS, as a set: none, and all",
            "people(0 1) | of(0..1, 7) = 0 | lot(0..9, 2, 1) | of(0..1, 7) = 0 1023 | lot(0, 2, 0)",
            "of(0..1, 7) = 1 1022");
    }

    private static void change(Edges e) {
        e.edge("8: one of PEOPLE",
            "change(0 -1, 2, 7) = BEYOND | people(0 0) | change(0 1, 2, 7) = 50",
            "change(-1 2 7 8 MIN MAX, 2, 8) = BEYOND",
            "of(0..1, 2) = 7");
        e.edge("8: what is 0 to 4",
            "person(3) | change(0, 0..4, 0) = 3 -1 50 50 0 | change(0, -1 5 6 7 MIN MAX, 1) = BEYOND");
        e.edge("8: a KIND is 0 to 6",
            "person(3) | change(0, 0, 6) = 3 | change(0, 0, 7 MAX) = BEYOND | change(0, 0, 0) = 6",
            "change(0, 0, -1 MIN) = BEYOND",
            "of(0, 0) = 0");
        e.edge("8: a LOT is 0 to 9, or -1",
            "person(3) | change(0, 1, 9) = -1 | change(0, 1, 10 MAX) = BEYOND | change(0, 1, 0) = 9",
            "change(0, 1, -1) = 0",
            "change(0, 1, -2 MIN) = BEYOND | of(0, 1) = -1");
        e.edge("8: BELIEF is 0 to 99",
            "person(3) | change(0, 2, 99) = 50 | change(0, 2, 100 MAX) = BEYOND | change(0, 2, 0) = 99",
            "change(0, 2, -1 MIN) = BEYOND | of(0, 2) = 0");
        e.edge("8: a PURSE is 0 to 9999",
            "person(3) | change(0, 3, 9999) = 50 | change(0, 3, 10000 MAX) = BEYOND | change(0, 3, 0) = 9999",
            "change(0, 3, -1 MIN) = BEYOND | of(0, 3) = 0");
        e.edge("8: FELL is 0 to 9999",
            "person(3) | change(0, 4, 9999) = 0 | change(0, 4, 10000 MAX) = BEYOND | change(0, 4, 0) = 9999",
            "change(0, 4, -1 MIN) = BEYOND | of(0, 4) = 0");
        e.edge("8: a LOT on which it wouldn't STAND, too", "person(5) | fogs(0) | change(0, 1, 4) = -1 | of(0, 1) = 4");
    }

    private static void trust(Edges e) {
        e.edge("9: one of PEOPLE",
            "trust(-1 0 MIN MAX, 0) = BEYOND | people(0 1) | trust(0..1, 0) = 25 45",
            "trust(-1 2 8 MIN MAX, 0) = BEYOND");
        e.edge("9: a LOT is 0 to 9", "person(4) | trust(0, 0 9) = 60 | trust(0, -1 10 MIN MAX) = BEYOND");
    }
}
