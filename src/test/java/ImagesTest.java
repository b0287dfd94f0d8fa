/** Promises 39 to 43: images, counts, status. */
final class ImagesTest {
    private static final Due due = new Due();

    public static void main(String[] args) {
        images();
        latest();
        count();
        status();
        due.end();
    }

    private static void images() {
        FogLots x = new FogLots();
        due.is("40 undo(), nothing kept", x.undo(), Due.NONE);
        due.is("41 tear(), nothing kept", x.tear(), 0);
        Due.tell(x, "mayor on 3 believes 60 purse 70;lot 3 rent 4 owner 0;sun 2 9;mist 8");
        x.hold(4, 0);
        x.seed(99);
        x.go(2);
        String kept = Due.seen(x);
        due.is("39 image()", x.image(), 1);
        Due.tell(x, "member on 3;lot 3 fog 4 rent 5 owner 1;lot 7 owner 1;sun 2 8;mist 7");
        x.change(0, 0, 2);
        x.change(0, 3, 1);
        x.change(0, 4, 7);
        x.hold(4, -1);
        x.hold(5, 1);
        x.fine(3);
        Due.feed(x, "mist 3");
        Due.put(x, 2, 8, 1, 2);
        x.go(0);
        due.is("40 undo()", x.undo(), 2);
        due.is("40 undo() leaves the tape", x.wipe(), 6);
        due.same("40 undo()", kept, Due.seen(x));
        due.is("40 undo() gives back what a spot held", x.as(4, 3), 0);
        due.is("40 undo() takes no finding back", x.status(-1), 2);
        due.is("40 undo() leaves sheets", x.load(2), 2);
        due.is("40 one that came later is gone", x.of(1, 0), Due.BEYOND);
        due.is("40 undo() again", x.undo(), 2);
        due.same("40 undo() again", kept, Due.seen(x));
        due.is("41 tear()", x.tear(), 1);
        due.is("41 tear()", x.tear(), 0);
        due.is("40 undo(), torn", x.undo(), Due.NONE);
        due.same("40 undo(), torn", kept, Due.seen(x));
    }

    private static void latest() {
        FogLots x = new FogLots();
        x.image();
        x.go(1);
        x.mist(1);
        x.image();
        x.go(3);
        x.mist(2);
        due.is("40 the latest", x.undo(), 1);
        due.is("40 the latest", x.mist(9), 1);
        due.is("40 what was kept stays", x.undo(), 1);
        due.is("40 what was kept stays", x.mist(9), 1);
    }

    private static void count() {
        FogLots x = new FogLots();
        Due.tell(x, "member on 3 purse 5;person purse 8;member on 3 purse 100");
        x.change(1, 4, 3);
        x.change(2, 4, 4);
        x.go(2);
        x.change(1, 1, -1);
        x.hold(0, 0);
        x.hold(1, 0);
        x.hold(9, 2);
        x.feed(0, 3);
        x.seed(-5);
        int[] want = {2, 3, 2, 7, 113, 3, -5, 3};
        for (int what = 0; what < 8; what++) {
            due.is("42 count(" + what + ")", x.count(what), want[what]);
        }
        due.is("42 count(-1)", x.count(-1), Due.BEYOND);
        due.is("42 count(8)", x.count(8), Due.BEYOND);
    }

    private static void status() {
        FogLots x = new FogLots();
        for (int i = 0; i < 8; i++) {
            x.person(0);
        }
        x.hold(0, 0);
        for (int i = 0; i < 1; i++) {
            x.now(9);
        }
        for (int i = 0; i < 2; i++) {
            x.person(0);
        }
        for (int i = 0; i < 3; i++) {
            x.as(0, 1);
        }
        for (int i = 0; i < 4; i++) {
            x.undo();
        }
        for (int i = 0; i < 6; i++) {
            x.load(0);
        }
        for (int i = 0; i < 7; i++) {
            x.sheet(0, 0, -1);
        }
        int[] want = {1, 2, 3, 4, 0, 6, 7};
        for (int which = 0; which < 7; which++) {
            due.is("43 status(" + which + ")", x.status(which), want[which]);
        }
        due.is("43 status(-1)", x.status(-1), 23);
        due.is("43 status(7)", x.status(7), Due.BEYOND);
        due.is("43 status(-2)", x.status(-2), Due.BEYOND);
        due.is("43 status(0)", x.status(0), 3);
        due.is("43 status(-1)", x.status(-1), 25);
    }
}
