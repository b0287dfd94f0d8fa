/**
 * All of an object that calls can tell, read to the end: the reading itself changes the object, so
 * that it is the last thing done with it. Two objects with the same reading are in the same state,
 * but for status().
 */
final class Reading {
    private final FogLots x;
    private final StringBuilder all = new StringBuilder();

    private Reading(FogLots x) {
        this.x = x;
    }

    static String of(FogLots x) {
        Reading r = new Reading(x);
        r.world("now");
        r.all.append("tape ").append(x.count(5)).append(" text ").append(x.text()).append('\n');
        r.world("behind the text");
        r.sheets();
        r.all.append("undo ").append(x.undo()).append('\n');
        r.world("behind undo");
        return r.all.toString();
    }

    private void world(String when) {
        all.append(when).append(": day ").append(x.count(0)).append(" z ").append(x.count(6)).append(" lots");
        for (int lot = 0; lot < 10; lot++) {
            for (int what = 0; what <= 2; what++) {
                all.append(what == 0 ? ' ' : '/').append(x.lotOf(lot, what));
            }
        }
        all.append(" list");
        for (int i = 0; i < 6; i++) {
            all.append(' ').append(x.sun(i, 0));
        }
        all.append(" mist ").append(x.mist(0)).append(" people");
        for (int person = 0; person < x.count(1); person++) {
            for (int what = 0; what <= 4; what++) {
                all.append(what == 0 ? ' ' : '/').append(x.of(person, what));
            }
        }
        all.append(" spots");
        for (int spot = 0; spot < 10; spot++) {
            all.append(' ').append(x.as(spot, 0));
        }
        all.append('\n');
    }

    private void sheets() {
        for (int s = 0; s < 4; s++) {
            all.append("sheet ").append(s).append(':');
            for (int t = 0; t < 4; t++) {
                all.append(' ').append(x.copy(s, 0, t, 0, 0));
            }
            int n = 0;
            while (x.copy(s, n, s, n, 1) == 1) {
                n++;
            }
            all.append(" has ").append(n).append(':');
            for (int i = 0; i < n; i++) {
                all.append(' ').append(number(s, i));
            }
            all.append('\n');
        }
    }

    /** A number that is a fog or a boat's -1; another one can't be told from its like. */
    private String number(int s, int i) {
        x.copy(s, i, s, 0, 1);
        if (x.load(s) > 0) {
            return String.valueOf(x.lotOf(0, 0));
        }
        x.change(0, 1, -1);
        return x.judge(s) == 1 ? "another" : "-1";
    }
}
