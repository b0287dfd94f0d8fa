import java.math.BigInteger;
import java.util.ArrayList;
import java.util.Arrays;
import java.util.Comparator;
import java.util.List;
import java.util.regex.Matcher;
import java.util.regex.Pattern;
import java.util.stream.IntStream;

/**
 * The document written down once more, in another manner and without care for speed or room, so
 * that the class can be held against it: kinds are classes here, and every what-if is a new bank.
 */
final class Model {
    static final class Finding extends RuntimeException {
        private static final long serialVersionUID = 1;
        final int which;

        Finding(int which) {
            super(null, null, false, false);
            this.which = which;
        }
    }

    static final int BEYOND = 0;
    static final int FULL = 1;
    static final int KIND = 2;
    static final int NONE = 3;
    static final int STATE = 4;
    static final int MISSING = 5;
    static final int SIZE = 6;

    // ---- kinds

    static class Person {
        int trust(Bank b, One o, int lot) {
            return o.belief / 2;
        }

        int loses() {
            return 10;
        }

        Comparator<Integer> preference(Bank b) {
            return Comparator.comparing(lot -> -b.fog[lot]);
        }
    }

    static class Cottager extends Person {
        @Override
        int trust(Bank b, One o, int lot) {
            return super.trust(b, o, lot) + 20;
        }

        @Override
        int loses() {
            return super.loses() - 8;
        }
    }

    static class Surveyor extends Person {
        @Override
        int trust(Bank b, One o, int lot) {
            return Math.max(0, super.trust(b, o, lot) - 10);
        }

        @Override
        Comparator<Integer> preference(Bank b) {
            return Comparator.comparing(lot -> b.rent[lot]);
        }
    }

    static class Mayor extends Surveyor {
        @Override
        int trust(Bank b, One o, int lot) {
            return super.trust(b, o, lot) + (b.owner[lot] == o.number ? 30 : 0);
        }

        @Override
        int loses() {
            return super.loses() / 2;
        }
    }

    static class Member extends Mayor {
        @Override
        int trust(Bank b, One o, int lot) {
            return 60;
        }

        @Override
        int loses() {
            return 0;
        }
    }

    static class Doubter extends Person {
        @Override
        int trust(Bank b, One o, int lot) {
            return 0;
        }

        @Override
        int loses() {
            return 2 * super.loses();
        }
    }

    static class Pupil extends Cottager {
        @Override
        int trust(Bank b, One o, int lot) {
            long others = b.all.stream().filter(p -> p != o && p.lot == lot).count();
            return super.trust(b, o, lot) + 2 * (int) others;
        }

        @Override
        Comparator<Integer> preference(Bank b) {
            return Comparator.naturalOrder();
        }
    }

    static final List<Person> KINDS = List.of(new Person(), new Cottager(), new Surveyor(), new Mayor(),
        new Member(), new Doubter(), new Pupil());
    static final List<String> WORDS = List.of("person", "cottager", "surveyor", "mayor", "member", "doubter", "pupil");

    static final class One {
        int number;
        int kind;
        int lot = -1;
        int belief = 50;
        int purse = 50;
        int fell = 0;
        boolean away = false;

        One(int number, int kind) {
            this.number = number;
            this.kind = kind;
        }

        One twin() {
            One t = new One(number, kind);
            t.lot = lot;
            t.belief = belief;
            t.purse = purse;
            t.fell = fell;
            t.away = away;
            return t;
        }
    }

    // ---- the bank

    static final class Bank {
        int[] fog = new int[10];
        int[] rent = new int[10];
        int[] owner = new int[10];
        int[] list = new int[6];
        int[] spot = new int[10];
        int mist = 5;
        int day = 0;
        int z = 1;
        List<One> all = new ArrayList<>();

        Bank() {
            Arrays.fill(fog, 50);
            Arrays.fill(owner, -1);
            Arrays.fill(list, 5);
            Arrays.fill(spot, -1);
        }

        Bank twin() {
            Bank t = new Bank();
            t.fog = fog.clone();
            t.rent = rent.clone();
            t.owner = owner.clone();
            t.list = list.clone();
            t.spot = spot.clone();
            t.mist = mist;
            t.day = day;
            t.z = z;
            for (One o : all) {
                t.all.add(o.twin());
            }
            return t;
        }

        Bank behind(int days) {
            Bank t = twin();
            for (int i = 0; i < days; i++) {
                t.goOneDay();
            }
            return t;
        }

        int trust(One o, int lot) {
            return KINDS.get(o.kind).trust(this, o, lot);
        }

        boolean stands(One o, int lot) {
            return fog[lot] + trust(o, lot) >= 60;
        }

        int makesFor(One o) {
            // min() gives the first of equals on an ordered stream.
            return IntStream.range(0, 10).boxed().filter(lot -> stands(o, lot))
                .min(KINDS.get(o.kind).preference(this)).orElse(-1);
        }

        int on() {
            return all.stream().filter(o -> o.lot >= 0).mapToInt(o -> 1 << o.number).sum();
        }

        int draw() {
            z = z * 1103515245 + 12345;
            return z >>> 8;
        }

        void goOneDay() {
            for (int lot = 0; lot < 10; lot++) {
                int f = fog[lot] - list[day % 6] + mist;
                fog[lot] = f < 0 ? 0 : f > 99 ? 99 : f;
            }
            int[] was = fog.clone();
            for (int lot = 0; lot < 9; lot++) {
                int goes = (was[lot] - was[lot + 1]) / 4;
                fog[lot] -= goes;
                fog[lot + 1] += goes;
            }
            for (One o : all) {
                if (o.away) {
                    continue;
                }
                if (o.lot < 0) {
                    o.lot = makesFor(o);
                } else if (!stands(o, o.lot)) {
                    o.fell = Math.min(9999, o.fell + 1);
                    o.belief = Math.max(0, o.belief - KINDS.get(o.kind).loses());
                    o.lot = -1;
                }
            }
            for (One o : all) {
                if (o.lot >= 0 && owner[o.lot] >= 0 && owner[o.lot] != o.number) {
                    int pays = Math.min(o.purse, rent[o.lot]);
                    One lord = all.get(owner[o.lot]);
                    o.purse -= pays;
                    lord.purse = Math.min(9999, lord.purse + pays);
                }
            }
            int[] more = new int[all.size()];
            for (One o : all) {
                if (o.lot >= 0) {
                    int most = all.stream().filter(p -> p != o && p.lot == o.lot).mapToInt(p -> p.belief).max().orElse(-1);
                    more[o.number] = most > o.belief ? (most - o.belief) / 4 : 0;
                }
            }
            for (One o : all) {
                o.belief += more[o.number];
            }
            day = Math.min(99999, day + 1);
        }
    }

    Bank bank = new Bank();
    Bank kept = null;
    List<Integer> tape = new ArrayList<>();
    int[][] sheet = new int[4][];
    int[] width = new int[4];
    int[] found = new int[7];

    // ---- findings

    static void need(boolean holds, int finding) {
        if (!holds) {
            throw new Finding(finding);
        }
    }

    static boolean in(int v, int a, int b) {
        return a <= v && v <= b;
    }

    One one(int person) {
        need(in(person, 0, bank.all.size() - 1), BEYOND);
        return bank.all.get(person);
    }

    static void aLot(int lot) {
        need(in(lot, 0, 9), BEYOND);
    }

    void aSheet(int s) {
        need(in(s, 0, 3), BEYOND);
        need(sheet[s] != null, MISSING);
    }

    long answer(String name, int... a) {
        try {
            return ask(name, a);
        } catch (Finding f) {
            found[f.which]++;
            return -1000001 - f.which;
        }
    }

    private long ask(String name, int[] a) {
        switch (name) {
            case "lot": return lot(a[0], a[1], a[2]);
            case "lotOf": return lotOf(a[0], a[1]);
            case "sun": need(in(a[0], 0, 5) && in(a[1], 0, 40), BEYOND); return swap(bank.list, a[0], a[1]);
            case "mist": { need(in(a[0], 0, 40), BEYOND); int was = bank.mist; bank.mist = a[0]; return was; }
            case "person": need(in(a[0], 0, 6), BEYOND); need(bank.all.size() < 8, FULL);
                bank.all.add(new One(bank.all.size(), a[0])); return bank.all.size() - 1;
            case "of": need(in(a[1], 0, 7), BEYOND); return value(bank, one(a[0]), a[1]);
            case "change": return change(one(a[0]), a[1], a[2]);
            case "trust": aLot(a[1]); return bank.trust(one(a[0]), a[1]);
            case "go": need(in(a[0], 1, 60), BEYOND); need(bank.day + a[0] <= 99999, STATE);
                bank = bank.behind(a[0]); return bank.on();
            case "now": return now(a[0]);
            case "ahead": one(a[0]); need(in(a[1], 1, 4) && in(a[2], 0, 100), BEYOND);
                { Bank b = bank.behind(a[2]); return value(b, b.all.get(a[0]), a[1]); }
            case "fog": aLot(a[0]); need(in(a[1], 0, 100), BEYOND); return bank.behind(a[1]).fog[a[0]];
            case "falls": one(a[0]); return firstDay(1, b -> b.all.get(a[0]).fell > bank.all.get(a[0]).fell);
            case "bare": return firstDay(0, b -> b.on() == 0);
            case "meet": one(a[0]); one(a[1]); need(a[0] != a[1], BEYOND);
                return firstDay(0, b -> b.all.get(a[0]).lot >= 0 && b.all.get(a[0]).lot == b.all.get(a[1]).lot);
            default: return askMore(name, a);
        }
    }

    private long askMore(String name, int[] a) {
        switch (name) {
            case "beliefFor": return beliefFor(a[0], a[1]);
            case "settle": return settle(a[0], a[1]);
            case "kindFor": return kindFor(a[0], a[1]);
            case "rentFor": return rentFor(a[0], a[1]);
            case "sunFor": return sunFor(a[0]);
            case "away": return away(a[0], a[1]);
            case "fits": aSheet(a[0]); one(a[1]); return beliefs(a[0], a[1]).count();
            case "believed": aSheet(a[0]); one(a[1]);
                return beliefs(a[0], a[1]).min().orElseThrow(() -> new Finding(NONE));
            case "kinds": aSheet(a[0]); one(a[1]); return kinds(a[0], a[1]);
            case "fine": return fine(a[0]);
            case "odds": return odds(one(a[0]), a[1], a[2]);
            case "seed": { int was = bank.z; bank.z = a[0]; return was; }
            case "feed": need(in(a[1], 1, 4), BEYOND); need(tape.size() + a[1] <= 120, FULL);
                for (int i = a[1]; i > 0; i--) { tape.add(a[0] >> 8 * (i - 1) & 0xff); } return tape.size();
            case "wipe": { int had = tape.size(); tape.clear(); return had; }
            case "text": return text();
            case "hold": need(in(a[0], 0, 9), BEYOND); if (a[1] != -1) { one(a[1]); } bank.spot[a[0]] = a[1]; return 1;
            case "as": need(in(a[0], 0, 9) && in(a[1], 0, 6), BEYOND); need(bank.spot[a[0]] >= 0, MISSING);
                need(KINDS.get(a[1]).getClass().isInstance(KINDS.get(one(bank.spot[a[0]]).kind)), KIND);
                return bank.spot[a[0]];
            case "sheet": return sheet(a[0], a[1], a[2]);
            case "write": aSheet(a[0]); need(in(a[1], 0, sheet[a[0]].length - 1), BEYOND);
                sheet[a[0]][a[1]] = a[2] << 32 - width[a[0]] >> 32 - width[a[0]]; return 1;
            case "copy": return copy(a[0], a[1], a[2], a[3], a[4]);
            case "load": return load(a[0]);
            case "judge": return judge(a[0]);
            case "image": kept = bank.twin(); return 1;
            case "undo": need(kept != null, NONE); bank = kept.twin(); return bank.day;
            case "tear": { int was = kept == null ? 0 : 1; kept = null; return was; }
            case "count": return count(a[0]);
            case "status": need(in(a[0], -1, 6), BEYOND);
                return a[0] < 0 ? Arrays.stream(found).sum() : found[a[0]];
            default: throw new IllegalArgumentException(name);
        }
    }

    // ---- lots, people, days

    private static int swap(int[] row, int i, int v) {
        int was = row[i];
        row[i] = v;
        return was;
    }

    private long lot(int lot, int what, int v) {
        aLot(lot);
        need(in(what, 0, 2), BEYOND);
        int least = what == 2 ? -1 : 0;
        int most = what == 0 ? 99 : what == 1 ? 20 : bank.all.size() - 1;
        need(in(v, least, most), BEYOND);
        return swap(what == 0 ? bank.fog : what == 1 ? bank.rent : bank.owner, lot, v);
    }

    private long lotOf(int lot, int what) {
        aLot(lot);
        need(in(what, 0, 4), BEYOND);
        if (what < 3) {
            return new int[][] {bank.fog, bank.rent, bank.owner}[what][lot];
        }
        return bank.all.stream().filter(o -> what == 3 ? o.lot == lot : bank.stands(o, lot))
            .mapToInt(o -> 1 << o.number).sum();
    }

    private static int value(Bank b, One o, int what) {
        switch (what) {
            case 0: return o.kind;
            case 1: return o.lot;
            case 2: return o.belief;
            case 3: return o.purse;
            case 4: return o.fell;
            case 5: return KINDS.get(o.kind).loses();
            case 6: return b.makesFor(o);
            default: return lots(b, o.number);
        }
    }

    private static int lots(Bank b, int owner) {
        return IntStream.range(0, 10).filter(lot -> b.owner[lot] == owner).map(lot -> 1 << lot).sum();
    }

    private long change(One o, int what, int v) {
        need(in(what, 0, 4), BEYOND);
        int[] least = {0, -1, 0, 0, 0};
        int[] most = {6, 9, 99, 9999, 9999};
        need(in(v, least[what], most[what]), BEYOND);
        int was = value(bank, o, what);
        switch (what) {
            case 0: o.kind = v; break;
            case 1: o.lot = v; break;
            case 2: o.belief = v; break;
            case 3: o.purse = v; break;
            default: o.fell = v; break;
        }
        return was;
    }

    private static int fell(Bank b) {
        return b.all.stream().mapToInt(o -> o.fell).sum();
    }

    private static int purses(Bank b) {
        return b.all.stream().mapToInt(o -> o.purse).sum();
    }

    private long now(int what) {
        switch (what) {
            case 0: return bank.day;
            case 1: return Arrays.stream(bank.fog).sum();
            case 2: return bank.on();
            case 3: return purses(bank);
            case 4: return fell(bank);
            case 5: return IntStream.range(0, 10).boxed().min(Comparator.comparing(l -> -bank.fog[l])).orElse(-1);
            case 6: return bank.all.stream().min(Comparator.comparing(o -> -o.purse)).map(o -> o.number).orElse(-1);
            case 7: return lots(bank, -1);
            default: throw new Finding(BEYOND);
        }
    }

    private long count(int what) {
        switch (what) {
            case 0: return bank.day;
            case 1: return bank.all.size();
            case 2: return bank.all.stream().filter(o -> o.lot >= 0).count();
            case 3: return fell(bank);
            case 4: return purses(bank);
            case 5: return tape.size();
            case 6: return bank.z;
            case 7: return Arrays.stream(bank.spot).filter(p -> p >= 0).count();
            default: throw new Finding(BEYOND);
        }
    }

    private long firstDay(int from, java.util.function.Predicate<Bank> wanted) {
        Bank b = bank.behind(from);
        for (int n = from; n <= 100; n++) {
            if (wanted.test(b)) {
                return n;
            }
            b = b.behind(1);
        }
        throw new Finding(NONE);
    }

    // ---- how to stand

    private long beliefFor(int person, int n) {
        int now = one(person).fell;
        need(in(n, 0, 40), BEYOND);
        return IntStream.rangeClosed(0, 99).filter(v -> {
            Bank b = bank.twin();
            b.all.get(person).belief = v;
            return b.behind(n).all.get(person).fell == now;
        }).findFirst().orElseThrow(() -> new Finding(NONE));
    }

    private long settle(int person, int n) {
        one(person);
        need(in(n, 0, 40), BEYOND);
        return IntStream.range(0, 10).boxed().min(Comparator.comparing(lot -> {
            Bank b = bank.twin();
            b.all.get(person).lot = lot;
            return b.behind(n).all.get(person).fell;
        })).orElseThrow();
    }

    private long kindFor(int person, int n) {
        one(person);
        need(in(n, 0, 40), BEYOND);
        return IntStream.range(0, 7).boxed().min(Comparator.comparing(kind -> {
            Bank b = bank.twin();
            b.all.get(person).kind = kind;
            return -b.behind(n).all.get(person).purse;
        })).orElseThrow();
    }

    private long rentFor(int lot, int n) {
        aLot(lot);
        need(in(n, 0, 40), BEYOND);
        need(bank.owner[lot] >= 0, NONE);
        return IntStream.rangeClosed(0, 20).boxed().min(Comparator.comparing(rent -> {
            Bank b = bank.twin();
            b.rent[lot] = rent;
            return -b.behind(n).all.get(bank.owner[lot]).purse;
        })).orElseThrow();
    }

    private long sunFor(int n) {
        need(in(n, 0, 40), BEYOND);
        return IntStream.rangeClosed(0, 40).filter(v -> {
            Bank b = bank.twin();
            Arrays.fill(b.list, v);
            return fell(b.behind(n)) == fell(bank);
        }).max().orElseThrow(() -> new Finding(NONE));
    }

    private long away(int person, int n) {
        one(person);
        need(in(n, 0, 12), BEYOND);
        return IntStream.range(0, 1 << bank.all.size()).filter(set -> (set >> person & 1) == 0).filter(set -> {
            Bank b = bank.twin();
            for (One o : b.all) {
                if ((set >> o.number & 1) != 0) {
                    o.away = true;
                    o.lot = -1;
                }
            }
            return b.behind(n).all.get(person).lot >= 0;
        }).boxed().min(Comparator.comparing(Integer::bitCount)).orElseThrow(() -> new Finding(NONE));
    }

    // ---- told lots, fine days

    private boolean told(Bank b, int s, int person) {
        return IntStream.range(0, sheet[s].length)
            .allMatch(i -> sheet[s][i] == -2 || b.behind(i).all.get(person).lot == sheet[s][i]);
    }

    private IntStream beliefs(int s, int person) {
        return IntStream.rangeClosed(0, 99).filter(v -> {
            Bank b = bank.twin();
            b.all.get(person).belief = v;
            return told(b, s, person);
        });
    }

    private long kinds(int s, int person) {
        return IntStream.range(0, 7).filter(kind -> {
            Bank b = bank.twin();
            b.all.get(person).kind = kind;
            return told(b, s, person);
        }).map(kind -> 1 << kind).sum();
    }

    private long fine(int n) {
        need(in(n, 1, 20), BEYOND);
        need(bank.day + n <= 99999, STATE);
        for (int i = 0; i < n; i++) {
            bank.list[bank.day % 6] = bank.draw() % 41;
            bank.owner[bank.draw() % 10] = -1;
            bank.goOneDay();
        }
        return bank.on();
    }

    private long odds(One o, int n, int what) {
        need(in(n, 0, 18) && in(what, 0, 1), BEYOND);
        long k = IntStream.range(0, 10).filter(lot -> bank.stands(o, lot)).count();
        BigInteger above = BigInteger.valueOf(k).pow(n);
        BigInteger below = BigInteger.TEN.pow(n);
        BigInteger common = above.gcd(below);
        return (what == 0 ? above : below).divide(common).longValueExact();
    }

    // ---- texts

    private static final Pattern TOKEN = Pattern.compile(" *(?:([a-z]+)|([0-9]+)|(;)|([^ ])|$)", Pattern.DOTALL);

    private static final class Fault extends Exception {
        private static final long serialVersionUID = 1;
        final int place;

        Fault(int place) {
            super(null, null, false, false);
            this.place = place;
        }
    }

    private static final class Tokens {
        final List<String> words = new ArrayList<>();
        final List<Integer> places = new ArrayList<>();
        int at = 0;

        Tokens(String text) {
            Matcher m = TOKEN.matcher(text);
            int from = 0;
            while (from < text.length() && m.find(from)) {
                for (int group = 1; group <= 4; group++) {
                    if (m.group(group) != null) {
                        words.add(m.group(group));
                        places.add(m.start(group));
                    }
                }
                from = m.end();
            }
            words.add("");
            places.add(text.length());
        }

        String peek() {
            return words.get(at);
        }

        Fault fault() {
            return new Fault(places.get(at));
        }

        boolean took(String word) {
            if (peek().equals(word)) {
                at++;
                return true;
            }
            return false;
        }

        int number(int most) throws Fault {
            if (!peek().matches("[0-9]+") || new BigInteger(peek()).compareTo(BigInteger.valueOf(most)) > 0) {
                throw fault();
            }
            return Integer.parseInt(words.get(at++));
        }
    }

    private long text() {
        StringBuilder text = new StringBuilder();
        tape.forEach(b -> text.append((char) (int) b));
        tape.clear();
        Tokens t = new Tokens(text.toString());
        Bank b = bank.twin();
        try {
            int items = 0;
            do {
                item(t, b);
                items++;
            } while (t.took(";"));
            if (!t.peek().isEmpty()) {
                throw t.fault();
            }
            bank = b;
            return items;
        } catch (Fault f) {
            return -1 - f.place;
        }
    }

    private static void item(Tokens t, Bank b) throws Fault {
        int kind = WORDS.indexOf(t.peek());
        if (kind >= 0) {
            if (b.all.size() == 8) {
                throw t.fault();
            }
            t.at++;
            One o = new One(b.all.size(), kind);
            o.lot = t.took("on") ? t.number(9) : -1;
            o.belief = t.took("believes") ? t.number(99) : 50;
            o.purse = t.took("purse") ? t.number(9999) : 50;
            b.all.add(o);
        } else if (t.took("lot")) {
            int lot = t.number(9);
            b.fog[lot] = t.took("fog") ? t.number(99) : b.fog[lot];
            b.rent[lot] = t.took("rent") ? t.number(20) : b.rent[lot];
            b.owner[lot] = t.took("owner") ? t.number(b.all.size() - 1) : b.owner[lot];
        } else if (t.took("sun")) {
            int i = t.number(5);
            b.list[i] = t.number(40);
        } else if (t.took("mist")) {
            b.mist = t.number(40);
        } else {
            throw t.fault();
        }
    }

    // ---- sheets

    private long sheet(int s, int bits, int n) {
        need(in(s, 0, 3) && List.of(0, 8, 16, 32).contains(bits), BEYOND);
        need(n >= 0, SIZE);
        need(n <= 40, BEYOND);
        sheet[s] = bits == 0 ? null : new int[n];
        width[s] = bits;
        return bits == 0 ? 0 : n;
    }

    private long copy(int s, int from, int t, int to, int n) {
        need(in(s, 0, 3) && in(t, 0, 3), BEYOND);
        need(sheet[s] != null && sheet[t] != null, MISSING);
        need(width[s] == width[t], KIND);
        need(from >= 0 && to >= 0 && n >= 0, BEYOND);
        need((long) from + n <= sheet[s].length && (long) to + n <= sheet[t].length, BEYOND);
        int[] were = Arrays.copyOfRange(sheet[s], from, from + n);
        for (int i = 0; i < n; i++) {
            sheet[t][to + i] = were[i];
        }
        return n;
    }

    private long load(int s) {
        aSheet(s);
        for (int i = 0; i < sheet[s].length; i++) {
            if (i > 9 || !in(sheet[s][i], 0, 99)) {
                return i;
            }
            bank.fog[i] = sheet[s][i];
        }
        return sheet[s].length;
    }

    private long judge(int s) {
        aSheet(s);
        return IntStream.range(0, sheet[s].length)
            .filter(i -> i >= bank.all.size() || bank.all.get(i).lot != sheet[s][i])
            .map(i -> i + 1).findFirst().orElse(0);
    }
}
