import java.util.ArrayList;
import java.util.HashMap;
import java.util.List;
import java.util.Map;
import java.util.Random;

/** Runs of up to 512 calls, by a told seed, on the class and on the model: each answer is the same. */
final class ModelTest {
    private static final String[] NAMES = {"lot", "lotOf", "sun", "mist", "person", "of", "change", "trust", "go",
        "now", "ahead", "fog", "falls", "bare", "meet", "beliefFor", "settle", "kindFor", "rentFor", "sunFor", "away",
        "fits", "believed", "kinds", "fine", "odds", "seed", "feed", "wipe", "text", "hold", "as", "sheet", "write",
        "copy", "load", "judge", "image", "undo", "tear", "count", "status"};
    private static final String[] PIECES = {"person", "cottager", "surveyor", "mayor", "member", "doubter", "pupil",
        "lot", "sun", "mist", "on", "believes", "purse", "fog", "rent", "owner", ";", "0", "3", "9", "10", "40",
        "41", "99", "100", "9999", "10000", "x", "#", " "};

    private static final Due due = new Due();
    private static final Map<String, Integer> findings = new HashMap<>();
    private static Random random;
    private static List<String> calls;

    public static void main(String[] args) {
        int runs = args.length > 0 ? Integer.parseInt(args[0]) : 60;
        long from = args.length > 1 ? Long.parseLong(args[1]) : 1;
        for (int run = 0; run < runs; run++) {
            random = new Random(from + run);
            calls = new ArrayList<>();
            if (!oneRun(run)) {
                break;
            }
        }
        // A run that never comes to a call, or never gets past its findings, tests nothing.
        for (String name : NAMES) {
            due.is("answers other than findings of " + name, findings.getOrDefault(name, 0) > 20 ? 1 : 0, 1);
        }
        due.end();
    }

    private static boolean oneRun(int run) {
        FogLots x = new FogLots();
        Model m = new Model();
        for (int i = 0; i < 512; i++) {
            String name = NAMES[random.nextInt(NAMES.length)];
            int[] a = arguments(name, m);
            if (name.equals("text") && !feedText(x, m)) {
                return false;
            }
            if (name.equals("write") && random.nextInt(3) == 0) {
                tellSheet(x, m, a[0]);
            }
            if (!agree(x, m, name, a)) {
                System.out.println("run " + run + ", of: " + String.join("; ", calls));
                return false;
            }
        }
        return true;
    }

    private static boolean agree(FogLots x, Model m, String name, int... a) {
        StringBuilder call = new StringBuilder(name).append('(');
        for (int i = 0; i < a.length; i++) {
            call.append(i == 0 ? "" : ", ").append(a[i]);
        }
        calls.add(call.append(')').toString());
        long got = Calls.call(x, name, a);
        long want = m.answer(name, a);
        due.is(call.toString(), got, want);
        if (want > -1000001 || want < -1000007) {
            findings.merge(name, 1, Integer::sum);
        }
        return got == want;
    }

    /** A sheet with the lots on which one will be, so that told lots fit now and then. */
    private static void tellSheet(FogLots x, Model m, int s) {
        if (s < 0 || s > 3 || m.bank.all.isEmpty()) {
            return;
        }
        int person = random.nextInt(m.bank.all.size());
        int n = random.nextInt(random.nextInt(4) == 0 ? 41 : 6);
        Model.Bank b = m.bank.twin();
        agree(x, m, "sheet", s, 8 << random.nextInt(3), n);
        for (int i = 0; i < n; i++) {
            agree(x, m, "write", s, i, random.nextInt(5) == 0 ? -2 : b.all.get(person).lot);
            b = b.behind(1);
        }
        agree(x, m, "fits", s, person);
        agree(x, m, "believed", s, person);
        agree(x, m, "kinds", s, person);
    }

    private static boolean feedText(FogLots x, Model m) {
        if (random.nextInt(3) > 0) {
            agree(x, m, "wipe");
        }
        StringBuilder text = new StringBuilder();
        int items = 1 + random.nextInt(4);
        for (int i = 0; i < items; i++) {
            text.append(i == 0 ? "" : ";").append(item(m));
        }
        while (random.nextInt(3) == 0) {
            int at = random.nextInt(text.length() + 1);
            String piece = PIECES[random.nextInt(PIECES.length)];
            if (random.nextBoolean()) {
                text.insert(at, piece);
            } else if (at < text.length()) {
                text.setCharAt(at, random.nextInt(4) == 0 ? (char) random.nextInt(256) : piece.charAt(0));
            }
        }
        if (random.nextInt(8) == 0) {
            text.setLength(random.nextInt(text.length() + 1));
        }
        boolean same = true;
        for (int i = 0; i < text.length() && same; i++) {
            same = agree(x, m, "feed", text.charAt(i) | random.nextInt() << 8, 1);
        }
        return same;
    }

    private static String item(Model m) {
        String[] kinds = {"person", "cottager", "surveyor", "mayor", "member", "doubter", "pupil"};
        switch (random.nextInt(5)) {
            case 0:
                return "sun " + number(5) + " " + number(40);
            case 1:
                return "mist " + number(40);
            case 2:
                return "lot " + number(9) + perhaps("fog", 99) + perhaps("rent", 20)
                    + perhaps("owner", m.bank.all.size() - 1);
            default:
                return kinds[random.nextInt(7)] + perhaps("on", 9) + perhaps("believes", 99) + perhaps("purse", 9999);
        }
    }

    private static String perhaps(String word, int most) {
        return random.nextBoolean() ? "" : " " + word + " " + number(most);
    }

    private static int number(int most) {
        return random.nextInt(20) == 0 ? most + 1 : random.nextInt(Math.max(1, most + 1));
    }

    /** Of a range and a little around it, and seldom anything at all. */
    private static int near(int least, int most) {
        switch (random.nextInt(60)) {
            case 0:
                return least - 1;
            case 1:
                return most + 1;
            case 2:
                return random.nextInt();
            case 3:
                return random.nextBoolean() ? Integer.MIN_VALUE : Integer.MAX_VALUE;
            case 4:
            case 5:
                return least;
            case 6:
            case 7:
                return most;
            default:
                return least + random.nextInt(Math.max(1, most - least + 1));
        }
    }

    private static int[] arguments(String name, Model m) {
        int people = m.bank.all.size() - 1;
        int person = near(0, people);
        int lot = near(0, 9);
        int s = near(0, 3);
        switch (name) {
            case "lot": {
                int what = near(0, 2);
                return new int[] {lot, what, what == 0 ? near(0, 99) : what == 1 ? near(0, 20) : near(-1, people)};
            }
            case "lotOf": return new int[] {lot, near(0, 4)};
            // Much mist and little sun, or all people are in boats most of the time.
            case "sun": return new int[] {near(0, 5), random.nextInt(3) == 0 ? near(0, 40) : near(0, 12)};
            case "mist": return new int[] {random.nextInt(3) == 0 ? near(0, 40) : near(0, 12)};
            case "person": return new int[] {near(0, 6)};
            case "of": return new int[] {person, near(0, 7)};
            case "change": {
                int what = near(0, 4);
                int[] most = {6, 9, 99, 9999, 9999};
                int v = what < 0 || what > 4 ? 0 : near(what == 1 ? -1 : 0, most[what]);
                return new int[] {person, what, v};
            }
            case "trust": return new int[] {person, lot};
            case "go": return new int[] {random.nextInt(3) == 0 ? near(1, 60) : 1 + random.nextInt(3)};
            case "now": return new int[] {near(0, 7)};
            case "ahead": return new int[] {person, near(1, 4), near(0, random.nextBoolean() ? 100 : 5)};
            case "fog": return new int[] {lot, near(0, random.nextBoolean() ? 100 : 5)};
            case "falls": return new int[] {person};
            case "meet": return new int[] {person, near(0, people)};
            case "beliefFor": case "settle": case "kindFor":
                return new int[] {person, near(0, random.nextBoolean() ? 40 : 6)};
            case "rentFor": return new int[] {lot, near(0, random.nextBoolean() ? 40 : 6)};
            case "sunFor": return new int[] {near(0, random.nextBoolean() ? 40 : 6)};
            case "away": return new int[] {person, near(0, 12)};
            case "fits": case "believed": case "kinds": return new int[] {s, person};
            case "fine": return new int[] {random.nextInt(3) == 0 ? near(1, 20) : 1};
            case "odds": return new int[] {person, near(0, 18), near(0, 1)};
            case "seed": return new int[] {random.nextInt()};
            case "feed": return new int[] {random.nextInt(), near(1, 4)};
            case "hold": return new int[] {near(0, 9), near(-1, people)};
            case "as": return new int[] {near(0, 9), near(0, 6)};
            case "sheet": return new int[] {s, random.nextInt(8) == 0 ? near(0, 33) : 8 << random.nextInt(3),
                random.nextInt(12) == 0 ? -random.nextInt(3) : near(0, 40)};
            case "write": return new int[] {s, near(0, 39), random.nextBoolean() ? near(-2, 9) : near(0, 99)};
            case "copy": return new int[] {s, near(0, 15), near(0, 3), near(0, 15), near(0, 20)};
            case "load": case "judge": return new int[] {s};
            case "count": return new int[] {near(0, 7)};
            case "status": return new int[] {near(-1, 6)};
            default: return new int[0];
        }
    }
}
