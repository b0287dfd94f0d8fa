/**
 * Each finding of each act on a bank where much could change, with the finding that is due where
 * several would be; Edges holds the bank against one that was not asked, so that it changes nothing
 * but status().
 */
final class FindingsTest {
    private static final String PEOPLE =
        "read(person on 3;cottager on 3;surveyor on 4;mayor on 5;member on 6;pupil on 3;doubter on 9;doubter) = 8";

    /**
     * 8 people, 0 of them a person on lot 3 and 7 a doubter in a boat; lot 0 has no owner; spot 0
     * holds 0 and spot 9 nothing; sheet 0 has 3 numbers of 8 bits, sheet 1 has 2 of 16 bits, the
     * others are MISSING; the tape has 118 bytes, which are a text.
     */
    private static final String REST = "read(lot 3 fog 40 rent 3 owner 4;lot 5 owner 3;sun 1 7;mist 6;mist 5) = 5"
        + " | hold(0, 0) | hold(3, 3) | put(0, 8, 3 3 4) | put(1, 16, 5 6) | seed(-77)"
        + " | type(mist 9" + " ".repeat(112) + ") = 118";

    static final String[] CALLS = {
        "lot(-1 10 MIN MAX, 0, 0) = BEYOND", "lot(0, -1 3, 0) = BEYOND", "lot(0, 0, -1 100) = BEYOND",
        "lot(0, 1, -1 21) = BEYOND", "lot(0, 2, -2 8) = BEYOND", "lotOf(-1 10, 0) = BEYOND", "lotOf(0, -1 5) = BEYOND",
        "sun(-1 6, 0) = BEYOND", "sun(0, -1 41) = BEYOND", "mist(-1 41) = BEYOND", "person(-1 7) = BEYOND",
        "person(0..6) = FULL", "of(-1 8, 0) = BEYOND", "of(0, -1 8) = BEYOND", "change(-1 8, 0..4, 0) = BEYOND",
        "change(0, -1 5, 0) = BEYOND", "change(0, 0, -1 7) = BEYOND", "change(0, 1, -2 10) = BEYOND",
        "change(0, 2, -1 100) = BEYOND", "change(0, 3, -1 10000) = BEYOND", "change(0, 4, -1 10000) = BEYOND",
        "trust(-1 8, 0) = BEYOND", "trust(0, -1 10) = BEYOND", "go(0 61 -1) = BEYOND", "now(-1 8) = BEYOND",
        "ahead(-1 8, 1, 0) = BEYOND", "ahead(0, 0 5, 0) = BEYOND", "ahead(0, 1, -1 101) = BEYOND",
        "fog(-1 10, 0) = BEYOND", "fog(0, -1 101) = BEYOND", "falls(-1 8) = BEYOND", "falls(4 7) = NONE",
        "bare() = NONE", "meet(0 7, -1 8) = BEYOND", "meet(-1 8, 0 7) = BEYOND", "meet(0, 0) = BEYOND",
        "meet(7, 7) = BEYOND", "meet(0, 7) = NONE", "beliefFor(-1 8, 0) = BEYOND", "beliefFor(0 6, -1 41) = BEYOND",
        "beliefFor(6, 1) = NONE", "settle(-1 8, 0) = BEYOND", "settle(0, -1 41) = BEYOND", "kindFor(-1 8, 0) = BEYOND",
        "kindFor(0, -1 41) = BEYOND", "rentFor(-1 10, 0) = BEYOND", "rentFor(0 3, -1 41) = BEYOND",
        "rentFor(0, 0 40) = NONE", "sunFor(-1 41) = BEYOND", "sunFor(1) = NONE", "away(-1 8, 0) = BEYOND",
        "away(0 7, -1 13) = BEYOND", "away(7, 0 12) = NONE", "fits(-1 4, 0 8) = BEYOND", "fits(2 3, 0 8 -1) = MISSING",
        "fits(0 1, -1 8) = BEYOND", "believed(-1 4, 0 8) = BEYOND", "believed(2 3, 0 8 -1) = MISSING",
        "believed(0 1, -1 8) = BEYOND", "believed(0 1, 7) = NONE", "kinds(-1 4, 0 8) = BEYOND",
        "kinds(2 3, 0 8 -1) = MISSING", "kinds(0 1, -1 8) = BEYOND", "fine(0 21 -1) = BEYOND",
        "odds(-1 8, 0, 0) = BEYOND", "odds(0, -1 19, 0) = BEYOND", "odds(0, 0, -1 2) = BEYOND",
        "feed(1, 0 5 -1) = BEYOND", "feed(1, 3 4) = FULL", "hold(-1 10, 0 -1) = BEYOND", "hold(0 9, -2 8) = BEYOND",
        "as(-1 10, 0) = BEYOND", "as(0 9, -1 7) = BEYOND", "as(9, 0 6) = MISSING", "as(0, 1..6) = KIND",
        "sheet(-1 4, 0 8, -1 0) = BEYOND", "sheet(0 2, 7 -8, -1 0) = BEYOND", "sheet(0 2, 0 8 16 32, -1 MIN) = SIZE",
        "sheet(0 2, 0 8 16 32, 41 MAX) = BEYOND", "write(-1 4, 0 9, 7) = BEYOND", "write(2 3, 0 9 -1, 7) = MISSING",
        "write(0, -1 3, 7) = BEYOND", "write(1, -1 2, 7) = BEYOND", "copy(-1 4, 0, 0 2, 0, -1 1) = BEYOND",
        "copy(0 2, 0, -1 4, 0, -1 1) = BEYOND", "copy(2, 0, 0 1 3, 0, -1 1) = MISSING",
        "copy(0 1 3, 0, 2, 0, -1 1) = MISSING", "copy(0, 0, 1, 0, -1 1 9) = KIND", "copy(1, 0, 0, 0, -1 1 9) = KIND",
        "copy(0, 0, 0, 0, 4) = BEYOND", "copy(0, 1, 0, 0, 3) = BEYOND", "copy(0, 0, 0, 1, 3) = BEYOND",
        "copy(0, -1, 0, 0, 1) = BEYOND", "copy(0, 0, 0, -1, 1) = BEYOND", "copy(0, 0, 0, 0, -1) = BEYOND",
        "load(-1 4) = BEYOND", "load(2 3) = MISSING", "judge(-1 4) = BEYOND", "judge(2 3) = MISSING",
        "count(-1 8) = BEYOND", "status(-2 7) = BEYOND"};

    /** These need a late day, or that nothing is kept. */
    static final String[] CALLS_OF_THEIR_OWN = {"undo() = NONE", "go(10 60) = STATE", "fine(10 20) = STATE",
        "go(0 61) = BEYOND", "fine(0 21) = BEYOND"};

    private FindingsTest() {
    }

    public static void main(String[] args) {
        Edges e = new Edges();
        for (String call : CALLS) {
            e.edge("Findings: nothing is kept: " + call, PEOPLE, REST, call, "tear() = 0");
            e.edge("Findings: something is kept: " + call, PEOPLE, "image() = 1", REST, call);
        }
        for (String call : CALLS_OF_THEIR_OWN) {
            e.edge("Findings: nothing is kept: " + call, PEOPLE, REST, "days(99990)", call, "tear() = 0");
        }
        e.edge("Findings: undo(), torn", PEOPLE, "image() = 1", REST, "tear() = 1 | undo() = NONE");
        e.due.end();
    }
}
