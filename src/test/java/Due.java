/** Counts and prints the answers that are not the ones that are due. */
final class Due {
    static final long BEYOND = -1000001;
    static final long FULL = -1000002;
    static final long KIND = -1000003;
    static final long NONE = -1000004;
    static final long STATE = -1000005;
    static final long MISSING = -1000006;
    static final long SIZE = -1000007;

    private int wrong = 0;

    void is(String call, long got, long want) {
        if (got != want) {
            wrong++;
            System.out.println(call + " answered " + got + ", due is " + want);
        }
    }

    /** A finding must change nothing but status(); what is seen of an object before and after. */
    void same(String call, String before, String after) {
        if (!before.equals(after)) {
            wrong++;
            System.out.println(call + " changed\n  " + before + "\nto\n  " + after);
        }
    }

    void end() {
        System.out.println(wrong == 0 ? "all answers are as due" : wrong + " answers are not as due");
        if (wrong != 0) {
            System.exit(1);
        }
    }

    static void feed(FogLots x, String text) {
        for (int i = 0; i < text.length(); i++) {
            if (x.feed(text.charAt(i), 1) < 0) {
                throw new IllegalStateException(text);
            }
        }
    }

    /** Reads one text and answers what text() answered. */
    static int read(FogLots x, String text) {
        x.wipe();
        feed(x, text);
        return x.text();
    }

    /** Reads items one by one, for what is too long for the tape. */
    static void tell(FogLots x, String items) {
        for (String item : items.split(";")) {
            if (read(x, item) != 1) {
                throw new IllegalStateException(item);
            }
        }
    }

    static void put(FogLots x, int s, int bits, int... numbers) {
        x.sheet(s, bits, numbers.length);
        for (int i = 0; i < numbers.length; i++) {
            x.write(s, i, numbers[i]);
        }
    }

    /** All that can be seen by calls that answer no finding here and change nothing. */
    static String seen(FogLots x) {
        StringBuilder all = new StringBuilder();
        for (int lot = 0; lot < 10; lot++) {
            for (int what = 0; what <= 4; what++) {
                all.append(x.lotOf(lot, what)).append(' ');
            }
        }
        all.append("| ");
        for (int i = 0; i < 6; i++) {
            int was = x.sun(i, 0);
            x.sun(i, was);
            all.append(was).append(' ');
        }
        int mist = x.mist(0);
        x.mist(mist);
        all.append(mist).append(" | ");
        for (int person = 0; person < x.count(1); person++) {
            for (int what = 0; what <= 7; what++) {
                all.append(x.of(person, what)).append(' ');
            }
        }
        all.append("| ");
        for (int what = 0; what <= 7; what++) {
            all.append(x.count(what)).append(' ');
        }
        return all.toString();
    }
}
