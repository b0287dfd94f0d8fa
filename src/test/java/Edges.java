import java.util.ArrayList;
import java.util.Arrays;
import java.util.List;
import java.util.Set;
import java.util.TreeSet;

/**
 * Plays edges: one sentence of the document each, as calls on a new object with the answers that
 * are due.
 *
 * <p>A line holds steps with " | " between them, a step is a call, as "lot(0, 1, 21) = BEYOND". An
 * argument may tell several numbers ("0 9", "0..9"); each of them is called, with one answer for
 * all or one for each. A step without an answer may answer anything but a finding.
 *
 * <p>A second object plays the same steps without those that answer a finding and without those
 * that only ask; in the end both must be in the same state, and status() must tell those findings
 * and no other.
 */
final class Edges {
    private static final List<String> FINDINGS =
        List.of("BEYOND", "FULL", "KIND", "NONE", "STATE", "MISSING", "SIZE");
    private static final Set<String> QUESTIONS = Set.of("lotOf", "of", "trust", "now", "ahead", "fog", "falls", "bare",
        "meet", "beliefFor", "settle", "kindFor", "rentFor", "sunFor", "away", "fits", "believed", "kinds", "odds", "as",
        "judge", "count", "status");

    final Due due = new Due();
    private final Set<String> sections = new TreeSet<>();
    private String sentence;
    private FogLots x;
    private FogLots twin;
    private int[] found;

    void edge(String aSentence, String... lines) {
        sentence = aSentence;
        sections.add(aSentence.substring(0, aSentence.indexOf(':')));
        x = new FogLots();
        twin = new FogLots();
        found = new int[FINDINGS.size()];
        for (String line : lines) {
            for (String step : line.split(" \\| ")) {
                play(step);
            }
        }
        int all = 0;
        for (int which = 0; which < found.length; which++) {
            due.is(sentence + ": status(" + which + ")", x.status(which), found[which]);
            all += found[which];
        }
        due.is(sentence + ": status(-1)", x.status(-1), all);
        due.same(sentence + ": findings and questions", Reading.of(twin), Reading.of(x));
    }

    /** Whether a section of the document ("Terms 2", "17") has an edge. */
    boolean has(String section) {
        return sections.contains(section);
    }

    private void play(String step) {
        int open = step.indexOf('(');
        int close = step.lastIndexOf(')');
        if (open < 0 || close < open) {
            throw new IllegalArgumentException(step);
        }
        String name = step.substring(0, open).trim();
        String inside = step.substring(open + 1, close);
        String rest = step.substring(close + 1).trim();
        if (!rest.isEmpty() && !rest.startsWith("= ")) {
            throw new IllegalArgumentException(step);
        }
        List<String> wants = rest.isEmpty() ? List.of() : words(rest.substring(1));
        if (name.equals("read") || name.equals("type")) {
            one(name, inside, new int[0], wants.isEmpty() ? null : wants.get(0));
            return;
        }
        if (List.of("fogs", "suns", "people", "put").contains(name)) {
            one(name, inside, new int[0], null);
            return;
        }
        List<int[]> calls = calls(inside);
        if (wants.size() > 1 && wants.size() != calls.size()) {
            throw new IllegalArgumentException(step);
        }
        for (int i = 0; i < calls.size(); i++) {
            String want = wants.isEmpty() ? null : wants.get(wants.size() == 1 ? 0 : i);
            one(name, inside, calls.get(i), want);
        }
    }

    private void one(String name, String inside, int[] a, String want) {
        int finding = want == null ? -1 : FINDINGS.indexOf(want);
        long got = act(x, name, inside, a);
        String call = sentence + ": " + name + (a.length == 0 ? "(" + inside + ")" : Arrays.toString(a));
        if (finding >= 0) {
            found[finding]++;
        } else if (!QUESTIONS.contains(name)) {
            act(twin, name, inside, a);
        }
        if (want != null) {
            due.is(call, got, finding >= 0 ? -1000001 - finding : number(want));
        } else {
            due.is(call + " is a finding", got <= -1000001 && got >= -1000007 ? got : 0, 0);
        }
    }

    // ---- what a step says

    private static List<String> words(String text) {
        List<String> all = new ArrayList<>();
        for (String word : text.trim().split(" +")) {
            int dots = word.indexOf("..");
            if (dots < 0) {
                all.add(word);
                continue;
            }
            int last = Integer.parseInt(word.substring(dots + 2));
            for (int i = Integer.parseInt(word.substring(0, dots)); i <= last; i++) {
                all.add(String.valueOf(i));
            }
        }
        return all;
    }

    private static long number(String word) {
        if (word.startsWith("FAULT@")) {
            return -1 - Integer.parseInt(word.substring(6));
        }
        if (word.startsWith("0b")) {
            return Integer.parseInt(word.substring(2), 2);
        }
        if (word.startsWith("0x")) {
            return Integer.parseUnsignedInt(word.substring(2), 16);
        }
        switch (word) {
            case "MIN": return Integer.MIN_VALUE;
            case "MAX": return Integer.MAX_VALUE;
            default: return Long.parseLong(word);
        }
    }

    private static int[] numbers(String text) {
        return words(text).stream().mapToInt(word -> (int) number(word)).toArray();
    }

    /** Each of the numbers of each argument with each of the others', the first one slowest. */
    private static List<int[]> calls(String inside) {
        List<int[]> all = new ArrayList<>();
        all.add(new int[0]);
        if (inside.isBlank()) {
            return all;
        }
        for (String argument : inside.split(",")) {
            List<int[]> longer = new ArrayList<>();
            for (int[] before : all) {
                for (int v : numbers(argument)) {
                    int[] a = Arrays.copyOf(before, before.length + 1);
                    a[before.length] = v;
                    longer.add(a);
                }
            }
            all = longer;
        }
        return all;
    }

    // ---- what a step does

    private static long act(FogLots x, String name, String inside, int[] a) {
        switch (name) {
            case "type":
                type(x, inside);
                return x.count(5);
            case "read":
                type(x, inside);
                return x.text();
            case "fogs":
                return each(numbers(inside), 10, (i, v) -> x.lot(i, 0, v));
            case "suns":
                return each(numbers(inside), 6, (i, v) -> x.sun(i, v));
            case "people":
                return each(numbers(inside), numbers(inside).length, (i, v) -> x.person(v));
            case "put":
                return put(x, inside);
            case "days":
                return days(x, a[0]);
            case "trustWith":
                x.change(a[0], 2, a[2]);
                return x.trust(a[0], a[1]);
            case "leftByAFall":
                x.change(a[0], 2, a[1]);
                x.change(a[0], 1, 0);
                x.go(1);
                return x.of(a[0], 2);
            default:
                return Calls.call(x, name, a);
        }
    }

    private interface Put {
        int at(int i, int v);
    }

    /** One number for all places, or one for each; the last finding, if there was one. */
    private static long each(int[] v, int places, Put put) {
        long finding = 0;
        for (int i = 0; i < places; i++) {
            int answer = put.at(i, v[v.length == 1 ? 0 : i]);
            finding = answer <= -1000001 ? answer : finding;
        }
        return finding;
    }

    private static long put(FogLots x, String inside) {
        String[] parts = inside.split(",");
        int s = numbers(parts[0])[0];
        int[] v = numbers(parts[2]);
        int n = x.sheet(s, numbers(parts[1])[0], v.length);
        return n < 0 ? n : each(v, v.length, (i, w) -> x.write(s, i, w));
    }

    /** Four bytes at once, so that a text takes few calls. */
    private static void type(FogLots x, String text) {
        for (int from = 0; from < text.length(); from += 4) {
            int n = Math.min(4, text.length() - from);
            int bytes = 0;
            for (int i = 0; i < n; i++) {
                bytes = bytes << 8 | text.charAt(from + i) & 255;
            }
            if (x.feed(bytes, n) < 0) {
                throw new IllegalStateException(text);
            }
        }
    }

    /** More days than one go() takes. */
    private static long days(FogLots x, int n) {
        int left = n;
        long set = 0;
        while (left > 0) {
            set = x.go(Math.min(60, left));
            left -= 60;
        }
        return set;
    }
}
