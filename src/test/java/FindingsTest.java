import java.util.List;

/** Each finding of each act, in the order of its words; none changes anything but status(). */
final class FindingsTest {
    private static final Due due = new Due();
    private static final List<String> NAMES = List.of("BEYOND", "FULL", "KIND", "NONE", "STATE", "MISSING", "SIZE");

    /**
     * On a full bank: 8 people, 0 of them a person on lot 3 and 7 a doubter in a boat; lot 0 has
     * no owner; spot 0 holds 0 and spot 9 nothing; sheet 0 has 3 numbers of 8 bits, sheet 1 has 2
     * of 16 bits, the others are MISSING; the tape has 118 bytes; nothing is kept.
     */
    private static final String[] CALLS = {
        "lot -1 0 0 BEYOND", "lot 10 0 0 BEYOND", "lot 0 3 0 BEYOND", "lot 0 -1 0 BEYOND", "lot 0 0 100 BEYOND",
        "lot 0 1 21 BEYOND", "lot 0 2 8 BEYOND", "lot 0 2 -2 BEYOND", "lotOf 10 0 BEYOND", "lotOf -1 0 BEYOND",
        "lotOf 0 5 BEYOND", "sun 6 0 BEYOND", "sun 0 41 BEYOND", "mist 41 BEYOND", "mist -1 BEYOND",
        "person 7 BEYOND", "person -1 BEYOND", "person 0 FULL", "of 8 0 BEYOND", "of -1 0 BEYOND", "of 0 8 BEYOND",
        "change 8 0 0 BEYOND", "change 0 5 0 BEYOND", "change 0 0 7 BEYOND", "change 0 1 10 BEYOND",
        "change 0 2 100 BEYOND", "change 0 3 10000 BEYOND", "change 0 4 10000 BEYOND", "trust 8 0 BEYOND",
        "trust 0 10 BEYOND", "go 0 BEYOND", "go 61 BEYOND", "now 8 BEYOND", "now -1 BEYOND", "ahead 8 1 0 BEYOND",
        "ahead 0 0 0 BEYOND", "ahead 0 5 0 BEYOND", "ahead 0 1 101 BEYOND", "fog 10 0 BEYOND", "fog 0 101 BEYOND",
        "falls 8 BEYOND", "falls 7 NONE", "bare NONE", "meet 0 0 BEYOND", "meet 0 8 BEYOND", "meet 8 0 BEYOND",
        "meet 0 7 NONE", "beliefFor 8 0 BEYOND", "beliefFor 0 41 BEYOND", "beliefFor 6 1 NONE", "settle 8 0 BEYOND",
        "settle 0 41 BEYOND", "kindFor 8 0 BEYOND", "kindFor 0 41 BEYOND", "rentFor 10 0 BEYOND", "rentFor 0 41 BEYOND",
        "rentFor 0 40 NONE", "sunFor 41 BEYOND", "sunFor -1 BEYOND", "sunFor 1 NONE", "away 8 0 BEYOND",
        "away 0 13 BEYOND", "away 7 12 NONE", "fits 4 8 BEYOND", "fits 2 8 MISSING", "fits 0 8 BEYOND",
        "believed 4 8 BEYOND", "believed 2 8 MISSING", "believed 0 8 BEYOND", "believed 0 7 NONE", "kinds 4 8 BEYOND",
        "kinds 2 8 MISSING", "kinds 0 8 BEYOND", "fine 0 BEYOND", "fine 21 BEYOND", "odds 8 0 0 BEYOND",
        "odds 0 19 0 BEYOND", "odds 0 0 2 BEYOND", "feed 1 0 BEYOND", "feed 1 5 BEYOND", "feed 1 3 FULL",
        "hold 10 0 BEYOND", "hold 0 8 BEYOND", "hold 0 -2 BEYOND", "as 10 0 BEYOND", "as 9 7 BEYOND", "as 9 6 MISSING",
        "as 0 6 KIND", "sheet 4 8 -1 BEYOND", "sheet 0 7 -1 BEYOND", "sheet 0 8 -1 SIZE", "sheet 0 0 -1 SIZE",
        "sheet 0 8 41 BEYOND", "write 4 9 0 BEYOND", "write 2 9 0 MISSING", "write 0 3 0 BEYOND", "write 0 -1 0 BEYOND",
        "copy 4 0 2 0 -1 BEYOND", "copy 2 0 4 0 -1 BEYOND", "copy 2 0 1 0 -1 MISSING", "copy 1 0 2 0 -1 MISSING",
        "copy 0 0 1 0 -1 KIND", "copy 0 0 0 0 4 BEYOND", "copy 0 1 0 0 3 BEYOND", "copy 0 0 0 1 3 BEYOND",
        "copy 0 -1 0 0 1 BEYOND", "copy 0 0 0 -1 1 BEYOND", "copy 0 0 0 0 -1 BEYOND", "load 4 BEYOND", "load 2 MISSING",
        "judge 4 BEYOND", "judge 2 MISSING", "undo NONE", "count 8 BEYOND", "count -1 BEYOND", "status 7 BEYOND",
        "status -2 BEYOND"};

    public static void main(String[] args) {
        for (String call : CALLS) {
            FogLots x = fullBank();
            due.is("status(-1) of a full bank", x.status(-1), 0);
            refuse(x, call);
        }
        due.end();
    }

    private static FogLots fullBank() {
        FogLots x = new FogLots();
        Due.tell(x, "person on 3;cottager on 3;surveyor on 4;mayor on 5;member on 6;pupil on 3;doubter on 9;doubter");
        Due.tell(x, "lot 3 fog 40 rent 3 owner 4;lot 5 owner 3");
        x.hold(0, 0);
        x.hold(3, 3);
        Due.put(x, 0, 8, 3, 3, 4);
        Due.put(x, 1, 16, 5, 6);
        Due.feed(x, "x".repeat(118));
        x.seed(-77);
        return x;
    }

    private static void refuse(FogLots x, String text) {
        String[] parts = text.split(" ");
        int[] a = new int[parts.length - 2];
        for (int i = 0; i < a.length; i++) {
            a[i] = Integer.parseInt(parts[i + 1]);
        }
        int which = NAMES.indexOf(parts[parts.length - 1]);
        String before = Due.seen(x);
        due.is(text, Calls.call(x, parts[0], a), -1000001 - which);
        due.same(text, before, Due.seen(x));
        due.is("status(-1) behind " + text, x.status(-1), 1);
        due.is("its status behind " + text, x.status(which), 1);
        sheetsAsBefore(x, text);
        due.is("tear() behind " + text, x.tear(), 0);
    }

    private static void sheetsAsBefore(FogLots x, String text) {
        int[][] numbers = {{3, 3, 4}, {5, 6}};
        for (int s = 0; s < 2; s++) {
            due.is("load behind " + text, x.load(s), numbers[s].length);
            for (int lot = 0; lot < numbers[s].length; lot++) {
                due.is("number behind " + text, x.lotOf(lot, 0), numbers[s][lot]);
            }
        }
        due.is("sheet 2 behind " + text, x.load(2), Due.MISSING);
        due.is("sheet 3 behind " + text, x.load(3), Due.MISSING);
        due.is("spot 0 behind " + text, x.as(0, 0), 0);
        due.is("spot 3 behind " + text, x.as(3, 3), 3);
    }
}
