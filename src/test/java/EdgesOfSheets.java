/** Promises 32 to 38 at their edges. */
final class EdgesOfSheets {
    private EdgesOfSheets() {
    }

    static void all(Edges e) {
        hold(e);
        as(e);
        sheet(e);
        write(e);
        copy(e);
        load(e);
        judge(e);
    }

    private static void hold(Edges e) {
        e.edge("32: SPOTS are 0 to 9",
            "person(0) | hold(0 9, 0) = 1 | hold(-1 10 MIN MAX, 0) = BEYOND | hold(-1 10 MIN MAX, -1) = BEYOND",
            "count(7) = 2");
        e.edge("32: one of PEOPLE, or nothing (-1): of nobody nothing alone",
            "hold(0, 0 1 7 8 MAX) = BEYOND | hold(0, -1) = 1 | hold(0, -2 MIN) = BEYOND | count(7) = 0");
        e.edge("32: .. of one, of eight",
            "person(0) | hold(3, 0) = 1 | hold(3, 1 -2) = BEYOND | as(3, 0) = 0 | people(0 0 0 0 0 0 0)",
            "hold(3, 7) = 1 | hold(3, 8 MAX MIN) = BEYOND | as(3, 0) = 7");
        e.edge("32: .. nothing again",
            "person(0) | hold(0..9, 0) = 1 | count(7) = 10 | hold(0..9, -1) = 1 | count(7) = 0",
            "as(0..9, 0) = MISSING");
        e.edge("32: one may be held by all SPOTS", "people(0 4) | hold(0..9, 1) = 1 | as(0..9, 4) = 1 | count(7) = 10");
    }

    private static void as(Edges e) {
        e.edge("33: SPOTS are 0 to 9", "person(0) | hold(0 9, 0) | as(0 9, 0) = 0 | as(-1 10 MIN MAX, 0) = BEYOND");
        e.edge("33: a kind is 0 to 6",
            "people(0 6) | hold(0, 0) | hold(1, 1) | as(0, 0) = 0 | as(1, 6) = 1 | as(0 1, -1 7 MIN MAX) = BEYOND");
        e.edge("33: MISSING: it holds nothing",
            "as(0..9, 0..6) = MISSING | person(0) | hold(4, 0) | hold(4, -1) | as(4, 0) = MISSING");
        e.edge("33: KIND: it isn't of that kind, nor of one under it",
            "people(0 1 2 3 4 5 6) | hold(0, 0) | as(0, 0..6) = 0 KIND KIND KIND KIND KIND KIND",
            "hold(0, 1) | as(0, 0..6) = 1 1 KIND KIND KIND KIND KIND | hold(0, 2)",
            "as(0, 0..6) = 2 KIND 2 KIND KIND KIND KIND",
            "hold(0, 3) | as(0, 0..6) = 3 KIND 3 3 KIND KIND KIND | hold(0, 4) | as(0, 0..6) = 4 KIND 4 4 4 KIND KIND",
            "hold(0, 5) | as(0, 0..6) = 5 KIND KIND KIND KIND 5 KIND | hold(0, 6)",
            "as(0, 0..6) = 6 6 KIND KIND KIND KIND 6");
        e.edge("33: .. of what KIND it is now",
            "person(0) | hold(0, 0) | as(0, 3) = KIND | change(0, 0, 4) | as(0, 3) = 0 | change(0, 0, 2)",
            "as(0, 3) = KIND");
        e.edge("33: BEYOND is asked before MISSING",
            "as(0, -1 7) = BEYOND | as(10 -1, 0 7) = BEYOND | as(0, 6) = MISSING");
        e.edge("33: BEYOND is asked before KIND", "person(5) | hold(0, 0) | as(0, -1 7) = BEYOND | as(0, 6) = KIND");
    }

    private static void sheet(Edges e) {
        e.edge("34: SHEETS are 0 to 3",
            "sheet(0 3, 8, 1) = 1 | sheet(-1 4 MIN MAX, 8, 1) = BEYOND | load(0..3) = 1 MISSING MISSING 1");
        e.edge("34: bits are 8, 16, 32, or 0",
            "sheet(0, 8 16 32, 2) = 2 | sheet(0, -1 1 7 9 15 17 24 31 33 64 -8 MIN MAX, 2) = BEYOND",
            "sheet(0, 0, 2) = 0");
        e.edge("34: n: none, and 40",
            "sheet(0, 8 16 32, 0) = 0 | load(0) = 0 | sheet(0, 8 16 32, 40) = 40 | write(0, 39, 1) = 1");
        e.edge("34: BEYOND: n is above 40",
            "sheet(0, 8, 3) = 3 | sheet(0, 8 16 32, 41 MAX) = BEYOND | write(0, 2 3, 1) = 1 BEYOND");
        e.edge("34: .. with bits 0, too",
            "sheet(0, 8, 3) = 3 | sheet(0, 0, 41 MAX) = BEYOND | load(0) = 3 | sheet(0, 0, 40) = 0",
            "load(0) = MISSING");
        e.edge("34: SIZE: n is below 0 (also with bits 0)",
            "sheet(0, 8, 3) = 3 | sheet(0, 0 8 16 32, -1 MIN) = SIZE | load(0) = 3");
        e.edge("34: BEYOND: no such sheet, other bits is asked before SIZE",
            "sheet(-1 4, 0 8 16 32, -1 MIN) = BEYOND | sheet(0..3, -1 1 7 64, -1 MIN) = BEYOND",
            "sheet(0, 8, -1) = SIZE");
        e.edge("34: bits 0: it is MISSING: 0",
            "sheet(0, 0, 0 1 40) = 0 | load(0) = MISSING | sheet(0, 8, 40) = 40 | sheet(0, 0, 40) = 0",
            "load(0) = MISSING");
        e.edge("34: all 0, as often as it is made",
            "put(0, 8, 7 7 7) | sheet(0, 8, 3) = 3 | load(0) = 3 | lotOf(0..3, 0) = 0 0 0 50 | put(0, 8, 7 7 7)",
            "sheet(0, 0, 0) | sheet(0, 16, 3) = 3",
            "load(0) = 3 | lotOf(0..3, 0) = 0 0 0 50 | sheet(0, 32, 40) = 40 | write(0, 39, 9)",
            "sheet(0, 32, 1) = 1 | sheet(0, 32, 40) = 40",
            "copy(0, 39, 0, 0, 1) = 1 | load(0) = 10 | lotOf(0, 0) = 0");
    }

    private static void write(Edges e) {
        e.edge("35: BEYOND: no such sheet",
            "sheet(0 3, 8, 1) | write(0 3, 0, 7) = 1 | write(-1 4 MIN MAX, 0, 7) = BEYOND");
        e.edge("35: MISSING",
            "write(0..3, 0, 7) = MISSING | sheet(0, 8, 1) | write(0, 0, 7) = 1 | sheet(0, 0, 1)",
            "write(0, 0, 7) = MISSING");
        e.edge("35: BEYOND: no such number: of none", "sheet(0, 8, 0) | write(0, -1 0 1 MIN MAX, 7) = BEYOND");
        e.edge("35: .. of two, of 40",
            "sheet(0, 8, 2) | write(0, 0 1, 7) = 1 | write(0, -1 2 39 40 MIN MAX, 7) = BEYOND | sheet(0, 16, 40)",
            "write(0, 0 39, 7) = 1 | write(0, 40 -1, 7) = BEYOND");
        e.edge("35: MISSING is asked before BEYOND: no such number",
            "write(0, -1 40 MAX, 7) = MISSING | write(4, -1 40, 7) = BEYOND");
        e.edge("35: v's lowest 8 bits",
            "put(0, 8, 256 257 355 -157 -255 0x12345663) | load(0) = 6 | lotOf(0..5, 0) = 0 1 99 99 1 99",
            "person(0) | put(0, 8, 255) | judge(0) = 0 | put(0, 8, -1) | judge(0) = 0 | put(0, 8, 128)",
            "judge(0) = 1 | load(0) = 0 | put(0, 8, 254) | fits(0, 0) = 100");
        e.edge("35: v's lowest 16 bits",
            "put(0, 16, 65536 65537 65635 -65437 0x12340063) | load(0) = 5 | lotOf(0..4, 0) = 0 1 99 99 99",
            "put(0, 16, 256) | load(0) = 0 | put(0, 16, 32768) | load(0) = 0 | person(0) | put(0, 16, 65535)",
            "judge(0) = 0 | put(0, 16, 255) | judge(0) = 1");
        e.edge("35: .. and all 32",
            "put(0, 32, 0 99 65536) | load(0) = 2 | put(0, 32, MIN) | load(0) = 0 | put(0, 32, MAX) | load(0) = 0",
            "person(0) | put(0, 32, -1) | judge(0) = 0 | put(0, 32, 65535) | judge(0) = 1");
    }

    private static void copy(Edges e) {
        String three = "put(0, 8, 1 2 3 4 5) | put(1, 8, 11 12 13) | put(2, 16, 21 22)";
        e.edge("36: BEYOND: no such sheet (either)", three,
            "copy(-1 4 MIN MAX, 0, 1, 0, 1) = BEYOND | copy(0, 0, -1 4 MIN MAX, 0, 1) = BEYOND",
            "copy(-1 4, 0, -1 4, 0, 1) = BEYOND");
        e.edge("36: MISSING: one is",
            three, "copy(3, 0, 0, 0, 1) = MISSING | copy(0, 0, 3, 0, 1) = MISSING | copy(3, 0, 3, 0, 0) = MISSING");
        e.edge("36: KIND: they are not of as many bits", three,
            "copy(0, 0, 2, 0, 0 1) = KIND | copy(2, 0, 0, 0, 0 1) = KIND | put(3, 32, 7)",
            "copy(2, 0, 3, 0, 1) = KIND | copy(3, 0, 0, 0, 1) = KIND");
        e.edge("36: BEYOND: one has not so many: that from which they come", three,
            "copy(1, 0, 0, 0, 3) = 3 | copy(1, 0, 0, 0, 4) = BEYOND | copy(1, 2, 0, 0, 1) = 1",
            "copy(1, 2, 0, 0, 2) = BEYOND | copy(1, 3, 0, 0, 1) = BEYOND");
        e.edge("36: .. that to which they come", three,
            "copy(0, 0, 1, 0, 4) = BEYOND | copy(0, 0, 1, 0, 3) = 3 | copy(0, 3, 1, 1, 2) = 2",
            "copy(0, 0, 1, 2, 2) = BEYOND | copy(0, 0, 1, 3, 1) = BEYOND",
            "load(1) = 3 | lotOf(0..2, 0) = 1 4 5");
        e.edge("36: .. n is 0: at the end of both, not behind it", three,
            "copy(0, 0, 1, 0, 0) = 0 | copy(0, 5, 1, 3, 0) = 0 | copy(0, 6, 1, 0, 0) = BEYOND",
            "copy(0, 0, 1, 4, 0) = BEYOND | sheet(3, 8, 0) | copy(3, 0, 3, 0, 0) = 0",
            "copy(3, 0, 3, 0, 1) = BEYOND");
        e.edge("36: .. or from, to or n is below 0", three,
            "copy(0, -1 MIN, 1, 0, 0 1) = BEYOND | copy(0, 0, 1, -1 MIN, 0 1) = BEYOND",
            "copy(0, 0, 1, 0, -1 MIN) = BEYOND | copy(0, 1, 1, 1, -1) = BEYOND");
        e.edge("36: .. numbers so great that their sum wraps around", three,
            "copy(0, MAX, 1, 0, 1 MAX) = BEYOND | copy(0, 0, 1, MAX, 1 MAX) = BEYOND",
            "copy(0, 1, 1, 1, MAX) = BEYOND | copy(0, MIN, 1, 0, MIN MAX) = BEYOND",
            "copy(0, MAX, 1, MAX, MIN) = BEYOND | copy(0, MIN, 1, MIN, MIN) = BEYOND");
        e.edge("36: a full sheet",
            "sheet(0 1, 32, 40) | write(0, 0, 5) | write(0, 39, 6) | copy(0, 0, 1, 0, 40) = 40",
            "copy(0, 0, 1, 0, 41) = BEYOND | copy(0, 1, 1, 0, 40) = BEYOND",
            "copy(1, 39, 1, 1, 1) = 1 | load(1) = 10 | lotOf(0..2, 0) = 5 6 0");
        e.edge("36: as they all were: in one sheet, forward",
            three, "copy(0, 0, 0, 1, 4) = 4 | load(0) = 5 | lotOf(0..4, 0) = 1 1 2 3 4");
        e.edge("36: .. back", three, "copy(0, 1, 0, 0, 4) = 4 | load(0) = 5 | lotOf(0..4, 0) = 2 3 4 5 5");
        e.edge("36: .. to its own place", three, "copy(0, 0, 0, 0, 5) = 5 | load(0) = 5 | lotOf(0..4, 0) = 1 2 3 4 5");
        e.edge("36: no such sheet is asked before MISSING",
            three, "copy(3, 0, 4, 0, 0) = BEYOND | copy(-1, 0, 3, 0, 0) = BEYOND");
        e.edge("36: MISSING is asked before KIND and before BEYOND", three,
            "copy(3, 0, 2, 0, 0) = MISSING | copy(2, -1, 3, 0, 99) = MISSING | copy(3, -1, 0, -1, -1) = MISSING");
        e.edge("36: KIND is asked before BEYOND",
            three, "copy(0, -1, 2, 0, 1) = KIND | copy(0, 0, 2, 0, 9 -1) = KIND | copy(2, 9, 0, 9, 9) = KIND");
    }

    private static void load(Edges e) {
        e.edge("37: BEYOND: no such sheet", "sheet(0 3, 8, 1) | load(0 3) = 1 | load(-1 4 MIN MAX) = BEYOND");
        e.edge("37: MISSING", "load(0..3) = MISSING | sheet(0, 8, 1) | sheet(0, 0, 1) | load(0) = MISSING");
        e.edge("37: how many came: none of none", "sheet(0, 8, 0) | load(0) = 0 | now(1) = 500");
        e.edge("37: it ends at the first that isn't 0 to 99: above",
            "put(0, 16, 0 99 100 7) | load(0) = 2 | lotOf(0..3, 0) = 0 99 50 50 | put(0, 32, 100 7) | load(0) = 0",
            "lotOf(0..1, 0) = 0 99");
        e.edge("37: .. below",
            "put(0, 8, 0 -1 7) | load(0) = 1 | lotOf(0..2, 0) = 0 50 50 | put(0, 32, MIN 7) | load(0) = 0",
            "put(0, 8, 8 200 7) | load(0) = 1");
        e.edge("37: .. or for which there is no LOT",
            "put(0, 8, 1 2 3 4 5 6 7 8 9 10 11) | load(0) = 10 | lotOf(0..9, 0) = 1..10",
            "put(0, 8, 1 2 3 4 5 6 7 8 9 99) | load(0) = 10 | lotOf(9, 0) = 99 | put(0, 8, 1 2 3 4 5 6 7 8 9)",
            "load(0) = 9 | lotOf(9, 0) = 99",
            "put(0, 8, 0 0 0 0 0 0 0 0 0 100) | load(0) = 9 | lotOf(9, 0) = 99 | sheet(0, 8, 40) | load(0) = 10",
            "now(1) = 0");
    }

    private static void judge(Edges e) {
        e.edge("38: BEYOND: no such sheet", "sheet(0 3, 8, 0) | judge(0 3) = 0 | judge(-1 4 MIN MAX) = BEYOND");
        e.edge("38: MISSING", "judge(0..3) = MISSING | sheet(0, 8, 1) | sheet(0, 0, 1) | judge(0) = MISSING");
        e.edge("38: 0 if so: of no numbers",
            "sheet(0, 8, 0) | judge(0) = 0 | people(0 0) | change(0 1, 1, 3) | judge(0) = 0");
        e.edge("38: .. of fewer numbers than PEOPLE, and of as many",
            "people(0 0 0) | change(0, 1, 0) | change(2, 1, 9) | put(0, 8, 0) | judge(0) = 0 | put(0, 8, 0 -1)",
            "judge(0) = 0 | put(0, 8, 0 -1 9) | judge(0) = 0");
        e.edge("38: else 1 and the place of the first that isn't so: the first, the last",
            "people(0 0 0) | change(0, 1, 0) | change(2, 1, 9) | put(0, 8, 1 0 0) | judge(0) = 1",
            "put(0, 8, 0 0 0) | judge(0) = 2 | put(0, 8, 0 -1 8) | judge(0) = 3",
            "put(0, 8, -1 -1 9) | judge(0) = 1 | put(0, 8, 0 -2 9) | judge(0) = 2");
        e.edge("38: .. one for whom there is nobody",
            "put(0, 8, -1) | judge(0) = 1 | person(0) | judge(0) = 0 | put(0, 8, -1 -1) | judge(0) = 2");
        e.edge("38: .. of eight, and of 40 numbers",
            "people(0 0 0 0 0 0 0 0) | put(0, 8, -1 -1 -1 -1 -1 -1 -1 -1) | judge(0) = 0",
            "put(0, 8, -1 -1 -1 -1 -1 -1 -1 0) | judge(0) = 8",
            "put(0, 8, -1 -1 -1 -1 -1 -1 -1 -1 -1) | judge(0) = 9 | change(0..7, 1, 0) | sheet(0, 32, 40)",
            "judge(0) = 9");
        e.edge("38: .. numbers that no LOT has",
            "person(0) | put(0, 32, MIN) | judge(0) = 1 | put(0, 32, MAX) | judge(0) = 1 | put(0, 32, 10)",
            "judge(0) = 1",
            "put(0, 32, 255) | judge(0) = 1 | put(0, 8, 255) | judge(0) = 0");
    }
}
