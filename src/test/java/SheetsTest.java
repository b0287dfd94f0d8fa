/** Promises 32 to 38: spots and sheets. */
final class SheetsTest {
    private static final Due due = new Due();

    public static void main(String[] args) {
        hold();
        as();
        sheet();
        write();
        copy();
        load();
        judge();
        due.end();
    }

    private static void hold() {
        FogLots x = new FogLots();
        x.person(0);
        x.person(0);
        due.is("32 hold(0, 1)", x.hold(0, 1), 1);
        due.is("32 hold(9, 0)", x.hold(9, 0), 1);
        due.is("32 count(7)", x.count(7), 2);
        due.is("32 hold(9, -1)", x.hold(9, -1), 1);
        due.is("32 count(7)", x.count(7), 1);
        due.is("32 hold(-1, 0)", x.hold(-1, 0), Due.BEYOND);
        due.is("32 hold(10, 0)", x.hold(10, 0), Due.BEYOND);
        due.is("32 hold(0, -2)", x.hold(0, -2), Due.BEYOND);
        due.is("32 hold(0, 2)", x.hold(0, 2), Due.BEYOND);
        due.is("32 held still", x.as(0, 0), 1);
    }

    private static void as() {
        FogLots x = new FogLots();
        // Of each kind: the kinds that it is of, as a set.
        int[] of = {0b1, 0b11, 0b101, 0b1101, 0b11101, 0b100001, 0b1000011};
        for (int kind = 0; kind < 7; kind++) {
            x.person(kind);
            x.hold(kind, kind);
            for (int asked = 0; asked < 7; asked++) {
                long want = (of[kind] >> asked & 1) != 0 ? kind : Due.KIND;
                due.is("33 as(" + kind + ", " + asked + ")", x.as(kind, asked), want);
            }
        }
        x.change(0, 0, 4);
        due.is("33 of its kind now", x.as(0, 3), 0);
        due.is("33 as(7, 0)", x.as(7, 0), Due.MISSING);
        due.is("33 as(7, 7)", x.as(7, 7), Due.BEYOND);
        due.is("33 as(0, -1)", x.as(0, -1), Due.BEYOND);
        due.is("33 as(-1, 0)", x.as(-1, 0), Due.BEYOND);
        due.is("33 as(10, 0)", x.as(10, 0), Due.BEYOND);
    }

    private static void sheet() {
        FogLots x = new FogLots();
        due.is("34 sheet(0, 8, 40)", x.sheet(0, 8, 40), 40);
        due.is("34 sheet(3, 16, 0)", x.sheet(3, 16, 0), 0);
        due.is("34 sheet(1, 32, 7)", x.sheet(1, 32, 7), 7);
        due.is("34 load(1)", x.load(1), 7);
        due.is("34 all 0", x.now(1), 150);
        due.is("34 sheet(1, 0, 7)", x.sheet(1, 0, 7), 0);
        due.is("34 missing", x.load(1), Due.MISSING);
        due.is("34 sheet(-1, 8, 1)", x.sheet(-1, 8, 1), Due.BEYOND);
        due.is("34 sheet(4, 8, -1)", x.sheet(4, 8, -1), Due.BEYOND);
        due.is("34 sheet(0, 9, -1)", x.sheet(0, 9, -1), Due.BEYOND);
        due.is("34 sheet(0, -8, 1)", x.sheet(0, -8, 1), Due.BEYOND);
        due.is("34 sheet(0, 64, 1)", x.sheet(0, 64, 1), Due.BEYOND);
        due.is("34 sheet(0, 8, -1)", x.sheet(0, 8, -1), Due.SIZE);
        due.is("34 sheet(0, 0, -1)", x.sheet(0, 0, -1), Due.SIZE);
        due.is("34 sheet(0, 8, 41)", x.sheet(0, 8, 41), Due.BEYOND);
        due.is("34 sheet(0, 0, 41)", x.sheet(0, 0, 41), Due.BEYOND);
        due.is("34 it is as it was", x.write(0, 39, 1), 1);
        x.write(0, 0, 9);
        x.sheet(0, 8, 3);
        x.load(0);
        due.is("34 all 0 anew", x.lotOf(0, 0), 0);
        due.is("34 status(6)", x.status(6), 2);
    }

    private static void write() {
        FogLots x = new FogLots();
        x.person(0);
        int[] bits = {8, 16, 32};
        int[] stillAny = {256 - 2, 65536 - 2, -2};
        for (int i = 0; i < 3; i++) {
            x.sheet(0, bits[i], 2);
            due.is("35 write", x.write(0, 0, stillAny[i]), 1);
            due.is("35 write", x.write(0, 1, -2), 1);
            due.is("35 lowest bits", x.fits(0, 0), 100);
            due.is("35 write", x.write(0, 0, (1 << bits[i] - 1) + 3), 1);
            due.is("35 lowest bits with their sign", x.load(0), 0);
        }
        x.sheet(0, 8, 2);
        x.write(0, 0, 256 + 42);
        x.write(0, 1, 1024 + 43);
        due.is("35 lowest bits", x.load(0), 2);
        due.is("35 lowest bits", x.lotOf(0, 0), 42);
        due.is("35 lowest bits", x.lotOf(1, 0), 43);
        due.is("35 write(-1, 0, 0)", x.write(-1, 0, 0), Due.BEYOND);
        due.is("35 write(4, 0, 0)", x.write(4, 0, 0), Due.BEYOND);
        due.is("35 write(1, 0, 0)", x.write(1, 0, 0), Due.MISSING);
        due.is("35 write(1, -1, 0)", x.write(1, -1, 0), Due.MISSING);
        due.is("35 write(0, -1, 0)", x.write(0, -1, 0), Due.BEYOND);
        due.is("35 write(0, 2, 0)", x.write(0, 2, 0), Due.BEYOND);
    }

    private static void fogs(String call, FogLots x, int s, int... want) {
        due.is(call, x.load(s), want.length);
        for (int lot = 0; lot < want.length; lot++) {
            due.is(call + ", number " + lot, x.lotOf(lot, 0), want[lot]);
        }
    }

    private static void copy() {
        FogLots x = new FogLots();
        Due.put(x, 0, 8, 1, 2, 3, 4, 5);
        Due.put(x, 1, 8, 11, 12, 13);
        due.is("36 copy", x.copy(0, 3, 1, 0, 2), 2);
        fogs("36 copy", x, 1, 4, 5, 13);
        due.is("36 copy forward in one", x.copy(0, 0, 0, 1, 4), 4);
        fogs("36 copy forward in one", x, 0, 1, 1, 2, 3, 4);
        due.is("36 copy back in one", x.copy(0, 2, 0, 0, 3), 3);
        fogs("36 copy back in one", x, 0, 2, 3, 4, 3, 4);
        due.is("36 copy nothing", x.copy(0, 5, 1, 3, 0), 0);
        Due.put(x, 2, 16, 1, 2);
        int big = Integer.MAX_VALUE;
        int[][] calls = {{-1, 0, 1, 0, 1}, {0, 0, 4, 0, 1}, {4, 0, 3, 0, 1}, {3, 0, 0, 0, 1}, {0, 0, 3, 0, 1},
            {3, 0, 2, 0, -1}, {0, 0, 2, 0, 1}, {2, -1, 0, 0, 1}, {0, 0, 1, 0, 4}, {0, 4, 1, 0, 2}, {0, -1, 1, 0, 1},
            {0, 0, 1, -1, 1}, {0, 0, 1, 0, -1}, {0, 6, 1, 0, 0}, {0, 0, 1, 4, 0}, {0, big, 1, 0, big},
            {0, 1, 1, 1, big}, {0, Integer.MIN_VALUE, 1, 0, Integer.MIN_VALUE}};
        long[] want = {Due.BEYOND, Due.BEYOND, Due.BEYOND, Due.MISSING, Due.MISSING, Due.MISSING, Due.KIND, Due.KIND};
        for (int i = 0; i < calls.length; i++) {
            int[] c = calls[i];
            long w = i < want.length ? want[i] : Due.BEYOND;
            due.is("36 copy wrong " + i, x.copy(c[0], c[1], c[2], c[3], c[4]), w);
        }
        fogs("36 copy wrong", x, 0, 2, 3, 4, 3, 4);
        fogs("36 copy wrong", x, 1, 4, 5, 13);
    }

    private static void load() {
        FogLots x = new FogLots();
        Due.put(x, 0, 16, 0, 99, 7, 100, 8);
        due.is("37 load(0)", x.load(0), 3);
        int[] fog = {0, 99, 7, 50, 50};
        for (int lot = 0; lot < 5; lot++) {
            due.is("37 lotOf", x.lotOf(lot, 0), fog[lot]);
        }
        Due.put(x, 0, 8, 5, -1, 6);
        due.is("37 load, below 0", x.load(0), 1);
        due.is("37 lotOf(0, 0)", x.lotOf(0, 0), 5);
        x.sheet(0, 8, 40);
        due.is("37 load, too many", x.load(0), 10);
        due.is("37 now(1)", x.now(1), 0);
        x.sheet(0, 8, 0);
        due.is("37 load, none", x.load(0), 0);
        due.is("37 load(-1)", x.load(-1), Due.BEYOND);
        due.is("37 load(4)", x.load(4), Due.BEYOND);
        due.is("37 load(1)", x.load(1), Due.MISSING);
    }

    private static void judge() {
        FogLots x = new FogLots();
        Due.tell(x, "person on 3;person;person on 0");
        Due.put(x, 0, 8, 3, -1, 0);
        due.is("38 judge, so", x.judge(0), 0);
        Due.put(x, 0, 32, 3, -1);
        due.is("38 judge, fewer", x.judge(0), 0);
        x.sheet(0, 8, 0);
        due.is("38 judge, none", x.judge(0), 0);
        Due.put(x, 0, 8, 3, -1, 1);
        due.is("38 judge, the last", x.judge(0), 3);
        Due.put(x, 0, 8, 4, -1, 1);
        due.is("38 judge, the first", x.judge(0), 1);
        Due.put(x, 0, 8, 3, -2, 0);
        due.is("38 judge, -2 is none", x.judge(0), 2);
        Due.put(x, 0, 8, 3, -1, 0, -1);
        due.is("38 judge, nobody there", x.judge(0), 4);
        Due.put(x, 0, 8, 3, -1, 0, 0, 0, 0, 0, 0, 0, 0, 0);
        due.is("38 judge, many", x.judge(0), 4);
        due.is("38 judge(-1)", x.judge(-1), Due.BEYOND);
        due.is("38 judge(4)", x.judge(4), Due.BEYOND);
        due.is("38 judge(1)", x.judge(1), Due.MISSING);
    }
}
