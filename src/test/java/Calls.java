/** Calls of the class by their names, for tests that hold them as data. */
final class Calls {
    private Calls() {
    }

    static long call(FogLots x, String name, int... a) {
        switch (name) {
            case "lot": return x.lot(a[0], a[1], a[2]);
            case "lotOf": return x.lotOf(a[0], a[1]);
            case "sun": return x.sun(a[0], a[1]);
            case "mist": return x.mist(a[0]);
            case "person": return x.person(a[0]);
            case "of": return x.of(a[0], a[1]);
            case "change": return x.change(a[0], a[1], a[2]);
            case "trust": return x.trust(a[0], a[1]);
            case "go": return x.go(a[0]);
            case "now": return x.now(a[0]);
            case "ahead": return x.ahead(a[0], a[1], a[2]);
            case "fog": return x.fog(a[0], a[1]);
            case "falls": return x.falls(a[0]);
            case "bare": return x.bare();
            case "meet": return x.meet(a[0], a[1]);
            case "beliefFor": return x.beliefFor(a[0], a[1]);
            case "settle": return x.settle(a[0], a[1]);
            case "kindFor": return x.kindFor(a[0], a[1]);
            case "rentFor": return x.rentFor(a[0], a[1]);
            case "sunFor": return x.sunFor(a[0]);
            case "away": return x.away(a[0], a[1]);
            default: return callToo(x, name, a);
        }
    }

    private static long callToo(FogLots x, String name, int... a) {
        switch (name) {
            case "fits": return x.fits(a[0], a[1]);
            case "believed": return x.believed(a[0], a[1]);
            case "kinds": return x.kinds(a[0], a[1]);
            case "fine": return x.fine(a[0]);
            case "odds": return x.odds(a[0], a[1], a[2]);
            case "seed": return x.seed(a[0]);
            case "feed": return x.feed(a[0], a[1]);
            case "wipe": return x.wipe();
            case "text": return x.text();
            case "hold": return x.hold(a[0], a[1]);
            case "as": return x.as(a[0], a[1]);
            case "sheet": return x.sheet(a[0], a[1], a[2]);
            case "write": return x.write(a[0], a[1], a[2]);
            case "copy": return x.copy(a[0], a[1], a[2], a[3], a[4]);
            case "load": return x.load(a[0]);
            case "judge": return x.judge(a[0]);
            case "image": return x.image();
            case "undo": return x.undo();
            case "tear": return x.tear();
            case "count": return x.count(a[0]);
            case "status": return x.status(a[0]);
            default: throw new IllegalArgumentException(name);
        }
    }
}
