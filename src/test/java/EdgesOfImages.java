/** Promises 39 to 43 at their edges. */
final class EdgesOfImages {
    private static final String CHANGED = "fogs(1) | lot(0..9, 1, 2) | lot(0..9, 2, 0) | suns(3) | mist(4)"
        + " | person(1) | change(0, 0..4, 6) | hold(0..9, 1) | seed(-9) | go(2)";

    private EdgesOfImages() {
    }

    static void all(Edges e) {
        image(e);
        undo(e);
        tear(e);
        count(e);
        status(e);
    }

    private static void image(Edges e) {
        e.edge("39: all is kept: LOTS, THE LIST, MIST, PEOPLE, DAY, z, SPOTS",
            "people(3) | change(0, 1, 5) | change(0, 2 3 4, 7) | lot(8, 0, 9) | lot(8, 1, 10) | lot(8, 2, 0)",
            "suns(5 4 3 2 1 0) | mist(6)",
            "hold(9, 0) | seed(77) | image() = 1", CHANGED, "undo() = 0 | lotOf(8, 0 1 2) = 9 10 0",
            "lotOf(7, 0 1 2) = 50 0 -1",
            "sun(0..5, 5) = 5 4 3 2 1 0 | mist(5) = 6 | count(0 1 6 7) = 0 1 77 1 | of(0, 0..4) = 3 5 7 7 7",
            "as(9, 3) = 0 | as(0, 0) = MISSING");
        e.edge("39: .. of nobody",
            "image() = 1 | people(0 1 2 3 4 5 6 6) | hold(0, 7) | lot(0, 2, 7) | undo() = 0 | count(1 7) = 0",
            "of(0 7, 0) = BEYOND | lotOf(0, 2) = -1",
            "person(5) = 0 | of(0, 0..4) = 5 -1 50 50 0");
        e.edge("39: .. of eight",
            "people(0 1 2 3 4 5 6 6) | image() = 1 | undo() = 0 | count(1) = 8 | person(0) = FULL");
        e.edge("39: but not THE TAPE",
            "type(mist 7) | image() = 1 | wipe() = 6 | type(mist 8;) | undo() = 0 | count(5) = 7",
            "read(mist 9) = 2 | mist(5) = 9");
        e.edge("39: nor SHEETS",
            "put(0, 8, 7 7) | put(1, 8, 1) | image() = 1 | put(0, 16, 8) | sheet(1, 0, 0) | put(2, 8, 9 9 9)",
            "undo() = 0",
            "load(0..3) = 1 MISSING 3 MISSING | lotOf(0..2, 0) = 9 | write(0, 0, 99) = 1");
        e.edge("39: the image doesn't go with what changes later",
            "image() = 1 | lot(0, 0, 7) | go(1) | undo() = 0 | lotOf(0, 0) = 50 | lot(0, 0, 8) | undo() = 0",
            "lotOf(0, 0) = 50");
    }

    private static void undo(Edges e) {
        e.edge("40: NONE: nothing is kept",
            "person(0) | undo() = NONE", CHANGED, "undo() = NONE | now(0) = 2 | count(6) = -9");
        e.edge("40: .. not any more", "image() = 1 | tear() = 1 | go(3) | undo() = NONE | now(0) = 3 | undo() = NONE");
        e.edge("40: what was kept latest",
            "image() = 1 | go(1) | mist(7) | image() = 1 | go(5) | mist(9) | undo() = 1 | mist(8) = 7 | go(2)",
            "undo() = 1 | mist(8) = 7");
        e.edge("40: (which stays)",
            "go(4) | image() = 1 | undo() = 4 | undo() = 4 | go(60) | undo() = 4 | tear() = 1 | undo() = NONE");
        e.edge("40: DAY: the least and the most",
            "image() = 1 | undo() = 0 | days(99999) | image() = 1 | undo() = 99999 | go(1) = STATE | now(0) = 99999");
        e.edge("40: it takes no finding back",
            "image() = 1 | undo() = 0 | status(-1) = 0 | now(8) = BEYOND | undo() = 0 | status(-1 0) = 1 | tear()",
            "undo() = NONE | status(-1 3) = 2 1");
        e.edge("40: images behind an undo()",
            "image() = 1 | go(1) | undo() = 0 | go(2) | image() = 1 | undo() = 2 | go(1) | undo() = 2");
    }

    private static void tear(Edges e) {
        e.edge("41: 1 if something was kept, else 0",
            "tear() = 0 | image() = 1 | tear() = 1 | tear() = 0 | image() = 1 | image() = 1 | tear() = 1 | tear() = 0");
        e.edge("41: .. it was kept, and is still there behind undo()",
            "image() = 1 | undo() = 0 | tear() = 1 | tear() = 0");
        e.edge("41: nothing else changes", "go(3) | image() = 1 | mist(7) | tear() = 1 | mist(7) = 7 | now(0) = 3");
    }

    private static void count(Edges e) {
        e.edge("42: BEYOND: another what", "count(0..7) = 0 0 0 0 0 0 1 0 | count(-1 8 MIN MAX) = BEYOND");
        e.edge("42: 1 PEOPLE, 2 those ON LOTS: none, and eight",
            "count(1 2) = 0 | people(0 0 0 0 0 0 0 0) | count(1 2) = 8 0 | change(0..7, 1, 0) | count(1 2) = 8",
            "change(3, 1, -1) | count(1 2) = 8 7");
        e.edge("42: 3 FELL of all together, 4 PURSES together: the least and the most",
            "people(0 0 0 0 0 0 0 0) | count(3 4) = 0 400 | change(0..7, 3 4, 9999) | count(3 4) = 79992",
            "change(0..7, 3 4, 0) | count(3 4) = 0");
        e.edge("42: 5 bytes of THE TAPE: none, and 120",
            "count(5) = 0 | type(" + "y".repeat(120) + ") = 120 | count(5) = 120 | wipe() = 120 | count(5) = 0");
        e.edge("42: 6 z: any number",
            "count(6) = 1 | seed(MIN) | count(6) = MIN | seed(MAX) | count(6) = MAX | seed(-1000001)",
            "count(6) = -1000001 | status(-1) = 0");
        e.edge("42: 7 SPOTS that hold something: none, and ten",
            "person(0) | count(7) = 0 | hold(0..9, 0) | count(7) = 10 | hold(0, -1) | count(7) = 9");
    }

    private static void status(Edges e) {
        e.edge("43: which is -1, or 0 to 6",
            "status(-1..6) = 0 | status(-2 7 MIN MAX) = BEYOND | status(-1..6) = 4 4 0 0 0 0 0 0");
        e.edge("43: BEYOND (counted from then on): another one",
            "status(7) = BEYOND | status(0) = 1 | status(-2) = BEYOND | status(0) = 2 | status(-1) = 2",
            "status(-1) = 2");
        e.edge("43: each finding by itself, and all",
            "person(7) = BEYOND | status(-1..6) = 1 1 0 0 0 0 0 0 | people(0 0 0 0 0 0 0 0) | person(0) = FULL",
            "status(-1..6) = 2 1 1 0 0 0 0 0",
            "hold(0, 0) | as(0, 1) = KIND | status(-1..6) = 3 1 1 1 0 0 0 0 | undo() = NONE",
            "status(-1..6) = 4 1 1 1 1 0 0 0",
            "days(99999) | go(1) = STATE | status(-1..6) = 5 1 1 1 1 1 0 0 | load(0) = MISSING",
            "status(-1..6) = 6 1 1 1 1 1 1 0",
            "sheet(0, 0, -1) = SIZE | status(-1..6) = 7 1 1 1 1 1 1 1");
        e.edge("43: .. of acts that answer a long", "odds(0, 0, 0) = BEYOND | status(-1 0) = 1");
        e.edge("43: (undo() takes none back)",
            "image() | now(8) = BEYOND | undo() | status(0) = 1 | image() | now(8) = BEYOND | undo() | status(0) = 2");
        e.edge("43: what is no finding isn't counted: -1, a FAULT, a z",
            "now(6) = -1 | text() = FAULT@0 | seed(-1000001) | seed(1) = -1000001 | status(-1) = 0");
    }
}
