/**
 * A fog bank that was voted to be land: lots of fog with owners and rents, people who stand on
 * them by belief, and the days that go by. The promises are those of the project's document.
 */
public final class FogLots {
    private static final int LOW = -1000001;
    private static final int BEYOND = 0;
    private static final int FULL = 1;
    private static final int KIND = 2;
    private static final int NONE = 3;
    private static final int STATE = 4;
    private static final int MISSING = 5;
    private static final int SIZE = 6;
    private static final int FINDINGS = 7;

    private static final int LOTS = 10;
    private static final int MOST_FOG = 99;
    private static final int MOST_RENT = 20;
    private static final int SUNS = 6;
    private static final int MOST_SUN = 40;
    private static final int MOST_MIST = 40;
    private static final int MOST_PEOPLE = 8;
    private static final int MOST_BELIEF = 99;
    private static final int MOST_PURSE = 9999;
    private static final int MOST_FELL = 9999;
    private static final int MOST_DAY = 99999;
    private static final int SPOTS = 10;
    private static final int SHEETS = 4;
    private static final int MOST_NUMBERS = 40;
    private static final int MOST_BYTES = 120;

    private static final int PERSON = 0;
    private static final int COTTAGER = 1;
    private static final int SURVEYOR = 2;
    private static final int MAYOR = 3;
    private static final int MEMBER = 4;
    private static final int DOUBTER = 5;
    private static final int PUPIL = 6;
    private static final int KINDS = 7;

    private static final int IN_A_BOAT = -1;
    private static final int NOBODY = -1;
    private static final int ANY_LOT = -2;

    private static final int FAR = 100;
    private static final int PLANNED = 40;
    private static final int MOST_AWAY_DAYS = 12;
    private static final int MOST_GO = 60;
    private static final int MOST_FINE = 20;
    private static final int MOST_ODDS = 18;

    private final World world;
    /** What-if questions are played here, so that they change nothing and make nothing new. */
    private final World trial;
    private final World keptWorld;
    private boolean isKept;
    private final Tape tape;
    private final Sheet[] sheets;
    private final int[] found;

    public FogLots() {
        world = new World();
        trial = new World();
        keptWorld = new World();
        isKept = false;
        tape = new Tape();
        sheets = new Sheet[SHEETS];
        for (int s = 0; s < SHEETS; s++) {
            sheets[s] = new Sheet();
        }
        found = new int[FINDINGS];
    }

    // ---- lots, sun, people

    public int lot(int lot, int what, int v) {
        if (!isLot(lot)) {
            return finding(BEYOND);
        }
        if (what == 0 && within(v, 0, MOST_FOG)) {
            return exchange(world.fog, lot, v);
        }
        if (what == 1 && within(v, 0, MOST_RENT)) {
            return exchange(world.rent, lot, v);
        }
        if (what == 2 && (v == NOBODY || world.isPerson(v))) {
            return exchange(world.owner, lot, v);
        }
        return finding(BEYOND);
    }

    public int lotOf(int lot, int what) {
        if (!isLot(lot)) {
            return finding(BEYOND);
        }
        switch (what) {
            case 0:
                return world.fog[lot];
            case 1:
                return world.rent[lot];
            case 2:
                return world.owner[lot];
            case 3:
                return world.thoseOn(lot);
            case 4:
                return world.thoseStanding(lot);
            default:
                return finding(BEYOND);
        }
    }

    public int sun(int i, int v) {
        if (!within(i, 0, SUNS - 1) || !within(v, 0, MOST_SUN)) {
            return finding(BEYOND);
        }
        return exchange(world.suns, i, v);
    }

    public int mist(int v) {
        if (!within(v, 0, MOST_MIST)) {
            return finding(BEYOND);
        }
        int was = world.mist;
        world.mist = v;
        return was;
    }

    public int person(int kind) {
        if (!isKind(kind)) {
            return finding(BEYOND);
        }
        if (world.people >= MOST_PEOPLE) {
            return finding(FULL);
        }
        return world.add(kind);
    }

    public int of(int person, int what) {
        if (!world.isPerson(person)) {
            return finding(BEYOND);
        }
        switch (what) {
            case 0:
                return world.kind[person];
            case 5:
                return losesOf(world.kind[person]);
            case 6:
                return world.lotMadeFor(person);
            case 7:
                return world.lotsOwnedBy(person);
            default:
                return within(what, 1, 4) ? world.valueOf(person, what) : finding(BEYOND);
        }
    }

    public int change(int person, int what, int v) {
        if (!world.isPerson(person)) {
            return finding(BEYOND);
        }
        if (what == 0 && isKind(v)) {
            return exchange(world.kind, person, v);
        }
        if (what == 1 && (v == IN_A_BOAT || isLot(v))) {
            return exchange(world.place, person, v);
        }
        if (what == 2 && within(v, 0, MOST_BELIEF)) {
            return exchange(world.belief, person, v);
        }
        if (what == 3 && within(v, 0, MOST_PURSE)) {
            return exchange(world.purse, person, v);
        }
        if (what == 4 && within(v, 0, MOST_FELL)) {
            return exchange(world.fell, person, v);
        }
        return finding(BEYOND);
    }

    public int trust(int person, int lot) {
        if (!world.isPerson(person) || !isLot(lot)) {
            return finding(BEYOND);
        }
        return world.trustOf(person, lot);
    }

    // ---- days

    public int go(int n) {
        if (!within(n, 1, MOST_GO)) {
            return finding(BEYOND);
        }
        if (world.day + n > MOST_DAY) {
            return finding(STATE);
        }
        world.passDays(n);
        return world.thoseOnLots();
    }

    public int now(int what) {
        switch (what) {
            case 0:
                return world.day;
            case 1:
                return sumOf(world.fog, LOTS);
            case 2:
                return world.thoseOnLots();
            case 3:
                return sumOf(world.purse, world.people);
            case 4:
                return sumOf(world.fell, world.people);
            case 5:
                return firstGreatest(world.fog, LOTS);
            case 6:
                return firstGreatest(world.purse, world.people);
            case 7:
                return world.lotsOwnedBy(NOBODY);
            default:
                return finding(BEYOND);
        }
    }

    // ---- what will be (nothing changes)

    public int ahead(int person, int what, int n) {
        if (!world.isPerson(person) || !within(what, 1, 4) || !within(n, 0, FAR)) {
            return finding(BEYOND);
        }
        trial.become(world);
        trial.passDays(n);
        return trial.valueOf(person, what);
    }

    public int fog(int lot, int n) {
        if (!isLot(lot) || !within(n, 0, FAR)) {
            return finding(BEYOND);
        }
        trial.become(world);
        trial.passDays(n);
        return trial.fog[lot];
    }

    public int falls(int person) {
        if (!world.isPerson(person)) {
            return finding(BEYOND);
        }
        trial.become(world);
        for (int days = 1; days <= FAR; days++) {
            trial.passDays(1);
            if (trial.fell[person] > world.fell[person]) {
                return days;
            }
        }
        return finding(NONE);
    }

    public int bare() {
        trial.become(world);
        for (int days = 0; days <= FAR; days++) {
            if (trial.thoseOnLots() == 0) {
                return days;
            }
            trial.passDays(1);
        }
        return finding(NONE);
    }

    public int meet(int a, int b) {
        if (!world.isPerson(a) || !world.isPerson(b) || a == b) {
            return finding(BEYOND);
        }
        trial.become(world);
        for (int days = 0; days <= FAR; days++) {
            if (trial.place[a] != IN_A_BOAT && trial.place[a] == trial.place[b]) {
                return days;
            }
            trial.passDays(1);
        }
        return finding(NONE);
    }

    // ---- how to stand

    public int beliefFor(int person, int n) {
        if (!world.isPerson(person) || !within(n, 0, PLANNED)) {
            return finding(BEYOND);
        }
        for (int belief = 0; belief <= MOST_BELIEF; belief++) {
            trial.become(world);
            trial.belief[person] = belief;
            for (int i = 0; i < n && trial.fell[person] == world.fell[person]; i++) {
                trial.passDays(1);
            }
            if (trial.fell[person] == world.fell[person]) {
                return belief;
            }
        }
        return finding(NONE);
    }

    public int settle(int person, int n) {
        if (!world.isPerson(person) || !within(n, 0, PLANNED)) {
            return finding(BEYOND);
        }
        int best = 0;
        int fewest = MOST_FELL + 1;
        for (int lot = 0; lot < LOTS; lot++) {
            trial.become(world);
            trial.place[person] = lot;
            trial.passDays(n);
            if (trial.fell[person] < fewest) {
                fewest = trial.fell[person];
                best = lot;
            }
        }
        return best;
    }

    public int kindFor(int person, int n) {
        if (!world.isPerson(person) || !within(n, 0, PLANNED)) {
            return finding(BEYOND);
        }
        int best = 0;
        int most = -1;
        for (int kind = 0; kind < KINDS; kind++) {
            trial.become(world);
            trial.kind[person] = kind;
            trial.passDays(n);
            if (trial.purse[person] > most) {
                most = trial.purse[person];
                best = kind;
            }
        }
        return best;
    }

    public int rentFor(int lot, int n) {
        if (!isLot(lot) || !within(n, 0, PLANNED)) {
            return finding(BEYOND);
        }
        int owner = world.owner[lot];
        if (!world.isPerson(owner)) {
            return finding(NONE);
        }
        int best = 0;
        int most = -1;
        for (int rent = 0; rent <= MOST_RENT; rent++) {
            trial.become(world);
            trial.rent[lot] = rent;
            trial.passDays(n);
            if (trial.purse[owner] > most) {
                most = trial.purse[owner];
                best = rent;
            }
        }
        return best;
    }

    public int sunFor(int n) {
        if (!within(n, 0, PLANNED)) {
            return finding(BEYOND);
        }
        int fellNow = sumOf(world.fell, world.people);
        for (int v = MOST_SUN; v >= 0; v--) {
            trial.become(world);
            for (int i = 0; i < SUNS; i++) {
                trial.suns[i] = v;
            }
            for (int i = 0; i < n && sumOf(trial.fell, trial.people) == fellNow; i++) {
                trial.passDays(1);
            }
            if (sumOf(trial.fell, trial.people) == fellNow) {
                return v;
            }
        }
        return finding(NONE);
    }

    public int away(int person, int n) {
        if (!world.isPerson(person) || !within(n, 0, MOST_AWAY_DAYS)) {
            return finding(BEYOND);
        }
        int others = ((1 << world.people) - 1) & ~(1 << person);
        int best = -1;
        for (int set = 0; set <= others; set++) {
            boolean better = best < 0 || Integer.bitCount(set) < Integer.bitCount(best);
            if ((set & ~others) != 0 || !better) {
                continue;
            }
            trial.become(world);
            trial.sendAway(set);
            trial.passDays(n);
            if (trial.place[person] != IN_A_BOAT) {
                best = set;
            }
        }
        return best < 0 ? finding(NONE) : best;
    }

    // ---- told lots

    public int fits(int s, int person) {
        int fault = faultOfTold(s, person);
        if (fault >= 0) {
            return finding(fault);
        }
        int many = 0;
        for (int belief = 0; belief <= MOST_BELIEF; belief++) {
            trial.become(world);
            trial.belief[person] = belief;
            if (goesAsTold(person, sheets[s])) {
                many++;
            }
        }
        return many;
    }

    public int believed(int s, int person) {
        int fault = faultOfTold(s, person);
        if (fault >= 0) {
            return finding(fault);
        }
        for (int belief = 0; belief <= MOST_BELIEF; belief++) {
            trial.become(world);
            trial.belief[person] = belief;
            if (goesAsTold(person, sheets[s])) {
                return belief;
            }
        }
        return finding(NONE);
    }

    public int kinds(int s, int person) {
        int fault = faultOfTold(s, person);
        if (fault >= 0) {
            return finding(fault);
        }
        int set = 0;
        for (int kind = 0; kind < KINDS; kind++) {
            trial.become(world);
            trial.kind[person] = kind;
            if (goesAsTold(person, sheets[s])) {
                set |= 1 << kind;
            }
        }
        return set;
    }

    // ---- fine days

    public int fine(int n) {
        if (!within(n, 1, MOST_FINE)) {
            return finding(BEYOND);
        }
        if (world.day + n > MOST_DAY) {
            return finding(STATE);
        }
        for (int i = 0; i < n; i++) {
            world.suns[world.day % SUNS] = world.draw() % (MOST_SUN + 1);
            world.owner[world.draw() % LOTS] = NOBODY;
            world.passDays(1);
        }
        return world.thoseOnLots();
    }

    public long odds(int person, int n, int what) {
        if (!world.isPerson(person) || !within(n, 0, MOST_ODDS) || !within(what, 0, 1)) {
            return finding(BEYOND);
        }
        int above = 0;
        for (int lot = 0; lot < LOTS; lot++) {
            if (world.stands(person, lot)) {
                above++;
            }
        }
        int common = greatestCommon(above, LOTS);
        int base = what == 0 ? above / common : LOTS / common;
        // Numbers without a common divisor keep none when they are raised to the same power.
        long power = 1;
        for (int i = 0; i < n; i++) {
            power *= base;
        }
        return power;
    }

    public int seed(int v) {
        int was = world.z;
        world.z = v;
        return was;
    }

    // ---- texts

    public int feed(int bytes, int n) {
        if (!within(n, 1, 4)) {
            return finding(BEYOND);
        }
        if (tape.length + n > MOST_BYTES) {
            return finding(FULL);
        }
        for (int i = n - 1; i >= 0; i--) {
            tape.append(bytes >>> (8 * i));
        }
        return tape.length;
    }

    public int wipe() {
        int had = tape.length;
        tape.length = 0;
        return had;
    }

    public int text() {
        // A text with a fault must change nothing, so it is told to a copy first.
        trial.become(world);
        int items = tape.tellTo(trial);
        tape.length = 0;
        if (tape.fault >= 0) {
            return -1 - tape.fault;
        }
        world.become(trial);
        return items;
    }

    // ---- spots, sheets

    public int hold(int spot, int person) {
        if (!within(spot, 0, SPOTS - 1) || (person != NOBODY && !world.isPerson(person))) {
            return finding(BEYOND);
        }
        world.spots[spot] = person;
        return 1;
    }

    public int as(int spot, int kind) {
        if (!within(spot, 0, SPOTS - 1) || !isKind(kind)) {
            return finding(BEYOND);
        }
        int person = world.spots[spot];
        if (!world.isPerson(person)) {
            return finding(MISSING);
        }
        if (!isUnder(world.kind[person], kind)) {
            return finding(KIND);
        }
        return person;
    }

    public int sheet(int s, int bits, int n) {
        boolean isWidth = bits == 0 || bits == 8 || bits == 16 || bits == 32;
        if (!isSheet(s) || !isWidth) {
            return finding(BEYOND);
        }
        if (n < 0) {
            return finding(SIZE);
        }
        if (n > MOST_NUMBERS) {
            return finding(BEYOND);
        }
        sheets[s].begin(bits, n);
        return sheets[s].length;
    }

    public int write(int s, int i, int v) {
        if (!isSheet(s)) {
            return finding(BEYOND);
        }
        if (sheets[s].isMissing()) {
            return finding(MISSING);
        }
        if (!within(i, 0, sheets[s].length - 1)) {
            return finding(BEYOND);
        }
        sheets[s].put(i, v);
        return 1;
    }

    public int copy(int s, int from, int t, int to, int n) {
        if (!isSheet(s) || !isSheet(t)) {
            return finding(BEYOND);
        }
        if (sheets[s].isMissing() || sheets[t].isMissing()) {
            return finding(MISSING);
        }
        if (sheets[s].bits != sheets[t].bits) {
            return finding(KIND);
        }
        if (!sheets[s].has(from, n) || !sheets[t].has(to, n)) {
            return finding(BEYOND);
        }
        System.arraycopy(sheets[s].numbers, from, sheets[t].numbers, to, n);
        return n;
    }

    public int load(int s) {
        if (!isSheet(s)) {
            return finding(BEYOND);
        }
        Sheet sheet = sheets[s];
        if (sheet.isMissing()) {
            return finding(MISSING);
        }
        int came = 0;
        while (came < LOTS && came < sheet.length && within(sheet.numbers[came], 0, MOST_FOG)) {
            world.fog[came] = sheet.numbers[came];
            came++;
        }
        return came;
    }

    public int judge(int s) {
        if (!isSheet(s)) {
            return finding(BEYOND);
        }
        Sheet sheet = sheets[s];
        if (sheet.isMissing()) {
            return finding(MISSING);
        }
        for (int i = 0; i < sheet.length; i++) {
            if (!world.isPerson(i) || world.place[i] != sheet.numbers[i]) {
                return 1 + i;
            }
        }
        return 0;
    }

    // ---- images

    public int image() {
        keptWorld.become(world);
        isKept = true;
        return 1;
    }

    public int undo() {
        if (!isKept) {
            return finding(NONE);
        }
        world.become(keptWorld);
        return world.day;
    }

    public int tear() {
        int was = isKept ? 1 : 0;
        isKept = false;
        return was;
    }

    public int count(int what) {
        switch (what) {
            case 0:
                return world.day;
            case 1:
                return world.people;
            case 2:
                return Integer.bitCount(world.thoseOnLots());
            case 3:
                return sumOf(world.fell, world.people);
            case 4:
                return sumOf(world.purse, world.people);
            case 5:
                return tape.length;
            case 6:
                return world.z;
            case 7:
                return world.spotsHeld();
            default:
                return finding(BEYOND);
        }
    }

    public int status(int which) {
        if (which == -1) {
            return sumOf(found, FINDINGS);
        }
        if (!within(which, 0, FINDINGS - 1)) {
            return finding(BEYOND);
        }
        return found[which];
    }

    // ---- what the calls above share

    private int finding(int which) {
        found[which]++;
        return LOW - which;
    }

    /** The finding that stands against asking a sheet about one, or -1. */
    private int faultOfTold(int s, int person) {
        if (!isSheet(s)) {
            return BEYOND;
        }
        if (sheets[s].isMissing()) {
            return MISSING;
        }
        return world.isPerson(person) ? -1 : BEYOND;
    }

    /** Plays the trial on, as far as the sheet tells. */
    private boolean goesAsTold(int person, Sheet sheet) {
        for (int i = 0; i < sheet.length; i++) {
            if (i > 0) {
                trial.passDays(1);
            }
            int told = sheet.numbers[i];
            if (told != ANY_LOT && told != trial.place[person]) {
                return false;
            }
        }
        return true;
    }

    private static boolean within(int v, int least, int most) {
        return v >= least && v <= most;
    }

    private static boolean isLot(int lot) {
        return lot >= 0 && lot < LOTS;
    }

    private static boolean isKind(int kind) {
        return kind >= 0 && kind < KINDS;
    }

    private static boolean isSheet(int s) {
        return s >= 0 && s < SHEETS;
    }

    private static int exchange(int[] row, int i, int v) {
        int was = row[i];
        row[i] = v;
        return was;
    }

    private static int sumOf(int[] row, int n) {
        int sum = 0;
        for (int i = 0; i < n; i++) {
            sum += row[i];
        }
        return sum;
    }

    /** The first place of the greatest of the first n numbers, -1 if n is 0. */
    private static int firstGreatest(int[] row, int n) {
        int best = -1;
        for (int i = 0; i < n; i++) {
            if (best < 0 || row[i] > row[best]) {
                best = i;
            }
        }
        return best;
    }

    /** Of a (0 to LOTS) and b (above 0); it is never below 1, so that it may divide. */
    private static int greatestCommon(int a, int b) {
        int common = 1;
        for (int d = 2; d <= b; d++) {
            if (a % d == 0 && b % d == 0) {
                common = d;
            }
        }
        return common;
    }

    // ---- kinds

    private static int losesOf(int kind) {
        switch (kind) {
            case COTTAGER:
            case PUPIL:
                return 2;
            case MAYOR:
                return 5;
            case MEMBER:
                return 0;
            case DOUBTER:
                return 20;
            default:
                return 10;
        }
    }

    private static int kindAbove(int kind) {
        switch (kind) {
            case COTTAGER:
            case SURVEYOR:
            case DOUBTER:
                return PERSON;
            case MAYOR:
                return SURVEYOR;
            case MEMBER:
                return MAYOR;
            case PUPIL:
                return COTTAGER;
            default:
                return -1;
        }
    }

    /** Whether a kind is another one, or stands somewhere under it. */
    private static boolean isUnder(int kind, int top) {
        int k = kind;
        for (int steps = 0; steps < KINDS && k != top && k >= 0; steps++) {
            k = kindAbove(k);
        }
        return k == top;
    }

    /** Lots, list, mist, people, day, draws and spots: all that an image keeps. */
    private static final class World {
        private static final int SOLID = 60;
        private static final int AT_FIRST = 50;
        private static final int WEATHER_AT_FIRST = 5;

        final int[] fog = new int[LOTS];
        final int[] rent = new int[LOTS];
        final int[] owner = new int[LOTS];
        final int[] suns = new int[SUNS];
        int mist = WEATHER_AT_FIRST;

        int people = 0;
        final int[] kind = new int[MOST_PEOPLE];
        final int[] place = new int[MOST_PEOPLE];
        final int[] belief = new int[MOST_PEOPLE];
        final int[] purse = new int[MOST_PEOPLE];
        final int[] fell = new int[MOST_PEOPLE];
        /** Those who take no part in the days, as a set; only a trial has such. */
        int gone = 0;

        int day = 0;
        int z = 1;
        final int[] spots = new int[SPOTS];
        /** Room for what happens all at once. */
        private final int[] atOnce = new int[LOTS];

        World() {
            for (int lot = 0; lot < LOTS; lot++) {
                fog[lot] = AT_FIRST;
                owner[lot] = NOBODY;
            }
            for (int i = 0; i < SUNS; i++) {
                suns[i] = WEATHER_AT_FIRST;
            }
            for (int spot = 0; spot < SPOTS; spot++) {
                spots[spot] = NOBODY;
            }
        }

        void become(World other) {
            System.arraycopy(other.fog, 0, fog, 0, LOTS);
            System.arraycopy(other.rent, 0, rent, 0, LOTS);
            System.arraycopy(other.owner, 0, owner, 0, LOTS);
            System.arraycopy(other.suns, 0, suns, 0, SUNS);
            mist = other.mist;
            people = other.people;
            System.arraycopy(other.kind, 0, kind, 0, MOST_PEOPLE);
            System.arraycopy(other.place, 0, place, 0, MOST_PEOPLE);
            System.arraycopy(other.belief, 0, belief, 0, MOST_PEOPLE);
            System.arraycopy(other.purse, 0, purse, 0, MOST_PEOPLE);
            System.arraycopy(other.fell, 0, fell, 0, MOST_PEOPLE);
            gone = other.gone;
            day = other.day;
            z = other.z;
            System.arraycopy(other.spots, 0, spots, 0, SPOTS);
        }

        boolean isPerson(int person) {
            return person >= 0 && person < people;
        }

        /** The caller sees to it that there is room. */
        int add(int newKind) {
            int person = people;
            kind[person] = newKind;
            place[person] = IN_A_BOAT;
            belief[person] = AT_FIRST;
            purse[person] = AT_FIRST;
            fell[person] = 0;
            people++;
            return person;
        }

        void sendAway(int set) {
            gone = set;
            for (int person = 0; person < people; person++) {
                if (isGone(person)) {
                    place[person] = IN_A_BOAT;
                }
            }
        }

        private boolean isGone(int person) {
            return (gone >> person & 1) != 0;
        }

        int valueOf(int person, int what) {
            switch (what) {
                case 1:
                    return place[person];
                case 2:
                    return belief[person];
                case 3:
                    return purse[person];
                default:
                    return fell[person];
            }
        }

        int thoseOn(int lot) {
            int set = 0;
            for (int person = 0; person < people; person++) {
                if (place[person] == lot) {
                    set |= 1 << person;
                }
            }
            return set;
        }

        int thoseOnLots() {
            int set = 0;
            for (int person = 0; person < people; person++) {
                if (place[person] != IN_A_BOAT) {
                    set |= 1 << person;
                }
            }
            return set;
        }

        int thoseStanding(int lot) {
            int set = 0;
            for (int person = 0; person < people; person++) {
                if (stands(person, lot)) {
                    set |= 1 << person;
                }
            }
            return set;
        }

        int lotsOwnedBy(int person) {
            int set = 0;
            for (int lot = 0; lot < LOTS; lot++) {
                if (owner[lot] == person) {
                    set |= 1 << lot;
                }
            }
            return set;
        }

        int spotsHeld() {
            int held = 0;
            for (int spot = 0; spot < SPOTS; spot++) {
                if (spots[spot] != NOBODY) {
                    held++;
                }
            }
            return held;
        }

        int draw() {
            z = z * 1103515245 + 12345;
            return z >>> 8;
        }

        int trustOf(int person, int lot) {
            int half = belief[person] / 2;
            int surveyed = half > 10 ? half - 10 : 0;
            switch (kind[person]) {
                case COTTAGER:
                    return half + 20;
                case SURVEYOR:
                    return surveyed;
                case MAYOR:
                    return owner[lot] == person ? surveyed + 30 : surveyed;
                case MEMBER:
                    return 60;
                case DOUBTER:
                    return 0;
                case PUPIL:
                    int others = 0;
                    for (int other = 0; other < people; other++) {
                        others += other != person && place[other] == lot ? 1 : 0;
                    }
                    return half + 20 + 2 * others;
                default:
                    return half;
            }
        }

        boolean stands(int person, int lot) {
            return fog[lot] + trustOf(person, lot) >= SOLID;
        }

        int lotMadeFor(int person) {
            int best = IN_A_BOAT;
            for (int lot = 0; lot < LOTS; lot++) {
                if (stands(person, lot) && (best < 0 || prefers(kind[person], lot, best))) {
                    best = lot;
                }
            }
            return best;
        }

        /** Whether one of a kind makes rather for a lot than for an earlier one. */
        private boolean prefers(int aKind, int lot, int earlier) {
            switch (aKind) {
                case PUPIL:
                    return false;
                case SURVEYOR:
                case MAYOR:
                case MEMBER:
                    return rent[lot] < rent[earlier];
                default:
                    return fog[lot] > fog[earlier];
            }
        }

        void passDays(int n) {
            for (int i = 0; i < n; i++) {
                thinAndThicken();
                spreadFog();
                movePeople();
                payRents();
                spreadBelief();
                day = day < MOST_DAY ? day + 1 : MOST_DAY;
            }
        }

        private void thinAndThicken() {
            int more = mist - suns[day % SUNS];
            for (int lot = 0; lot < LOTS; lot++) {
                fog[lot] = Math.max(0, Math.min(MOST_FOG, fog[lot] + more));
            }
        }

        private void spreadFog() {
            for (int lot = 0; lot < LOTS - 1; lot++) {
                atOnce[lot] = (fog[lot] - fog[lot + 1]) / 4;
            }
            for (int lot = 0; lot < LOTS - 1; lot++) {
                fog[lot] -= atOnce[lot];
                fog[lot + 1] += atOnce[lot];
            }
        }

        private void movePeople() {
            for (int person = 0; person < people; person++) {
                if (isGone(person)) {
                    continue;
                }
                if (place[person] == IN_A_BOAT) {
                    place[person] = lotMadeFor(person);
                } else if (!stands(person, place[person])) {
                    fall(person);
                }
            }
        }

        private void fall(int person) {
            fell[person] = Math.min(MOST_FELL, fell[person] + 1);
            belief[person] = Math.max(0, belief[person] - losesOf(kind[person]));
            place[person] = IN_A_BOAT;
        }

        private void payRents() {
            for (int person = 0; person < people; person++) {
                if (place[person] == IN_A_BOAT) {
                    continue;
                }
                int lord = owner[place[person]];
                if (lord == person || !isPerson(lord)) {
                    continue;
                }
                int paid = Math.min(purse[person], rent[place[person]]);
                purse[person] -= paid;
                purse[lord] = Math.min(MOST_PURSE, purse[lord] + paid);
            }
        }

        private void spreadBelief() {
            for (int person = 0; person < people; person++) {
                int more = greatestBeliefBeside(person) - belief[person];
                atOnce[person] = more > 0 ? more / 4 : 0;
            }
            for (int person = 0; person < people; person++) {
                belief[person] += atOnce[person];
            }
        }

        /** Of the others on one's lot; 0, which moves nobody, where there are none. */
        private int greatestBeliefBeside(int person) {
            int greatest = 0;
            if (place[person] == IN_A_BOAT) {
                return greatest;
            }
            for (int other = 0; other < people; other++) {
                if (other != person && place[other] == place[person]) {
                    greatest = Math.max(greatest, belief[other]);
                }
            }
            return greatest;
        }
    }

    /** A row of numbers of some bits, which are told with their sign. */
    private static final class Sheet {
        int bits = 0;
        int length = 0;
        final int[] numbers = new int[MOST_NUMBERS];

        boolean isMissing() {
            return bits == 0;
        }

        void begin(int newBits, int n) {
            bits = newBits;
            length = newBits == 0 ? 0 : n;
            for (int i = 0; i < MOST_NUMBERS; i++) {
                numbers[i] = 0;
            }
        }

        void put(int i, int v) {
            if (bits == 8) {
                numbers[i] = (byte) v;
            } else if (bits == 16) {
                numbers[i] = (short) v;
            } else {
                numbers[i] = v;
            }
        }

        /** Asked without a sum, which could wrap around. */
        boolean has(int from, int n) {
            return from >= 0 && n >= 0 && from <= length && n <= length - from;
        }
    }

    /** The bytes that were fed, and the reading of them as a text. */
    private static final class Tape {
        private static final int WORD = 0;
        private static final int NUMBER = 1;
        private static final int SEMICOLON = 2;
        private static final int END = 3;
        private static final int OTHER = 4;
        private static final int MOST_NUMBER = 9999;

        final int[] bytes = new int[MOST_BYTES];
        int length = 0;
        /** The place of the first token that can't stand where it is, or -1. */
        int fault = -1;
        private int token = END;
        private int start = 0;
        private int end = 0;
        private int value = 0;

        /** The caller sees to it that there is room. */
        void append(int b) {
            bytes[length] = b & 255;
            length++;
        }

        /** Tells all items to a world, up to the first fault: how many there were. */
        int tellTo(World told) {
            fault = -1;
            end = 0;
            nextToken();
            int items = 0;
            boolean more = true;
            while (more && items < MOST_BYTES) {
                tellItem(told);
                items++;
                more = fault < 0 && token == SEMICOLON;
                if (more) {
                    nextToken();
                } else if (token != END) {
                    faultHere();
                }
            }
            return items;
        }

        private void tellItem(World told) {
            int kind = kindOfWord();
            if (kind >= 0) {
                tellPerson(told, kind);
            } else if (took("lot")) {
                tellLot(told);
            } else if (took("sun")) {
                tellSun(told);
            } else if (took("mist")) {
                told.mist = takeNumber(MOST_MIST);
            } else {
                faultHere();
            }
        }

        private void tellPerson(World told, int kind) {
            if (told.people >= MOST_PEOPLE) {
                faultHere();
                return;
            }
            nextToken();
            int person = told.add(kind);
            if (took("on")) {
                told.place[person] = takeNumber(LOTS - 1);
            }
            if (took("believes")) {
                told.belief[person] = takeNumber(MOST_BELIEF);
            }
            if (took("purse")) {
                told.purse[person] = takeNumber(MOST_PURSE);
            }
        }

        private void tellLot(World told) {
            int lot = takeNumber(LOTS - 1);
            if (!isLot(lot)) {
                return;
            }
            if (took("fog")) {
                told.fog[lot] = takeNumber(MOST_FOG);
            }
            if (took("rent")) {
                told.rent[lot] = takeNumber(MOST_RENT);
            }
            if (took("owner")) {
                told.owner[lot] = takeNumber(told.people - 1);
            }
        }

        private void tellSun(World told) {
            int i = takeNumber(SUNS - 1);
            int v = takeNumber(MOST_SUN);
            if (fault < 0) {
                told.suns[i] = v;
            }
        }

        /** The first fault counts; nothing is taken behind it. */
        private void faultHere() {
            if (fault < 0) {
                fault = start;
            }
        }

        /** Takes the token if it is this word. */
        private boolean took(String word) {
            boolean is = fault < 0 && isWord(word);
            if (is) {
                nextToken();
            }
            return is;
        }

        /** Takes a number of at most so much, or tells a fault: -1. */
        private int takeNumber(int most) {
            if (fault >= 0 || token != NUMBER || value > most) {
                faultHere();
                return -1;
            }
            int v = value;
            nextToken();
            return v;
        }

        private int kindOfWord() {
            if (isWord("person")) {
                return PERSON;
            }
            if (isWord("cottager")) {
                return COTTAGER;
            }
            if (isWord("surveyor")) {
                return SURVEYOR;
            }
            if (isWord("mayor")) {
                return MAYOR;
            }
            if (isWord("member")) {
                return MEMBER;
            }
            if (isWord("doubter")) {
                return DOUBTER;
            }
            return isWord("pupil") ? PUPIL : -1;
        }

        private boolean isWord(String word) {
            if (token != WORD || end - start != word.length()) {
                return false;
            }
            for (int i = 0; i < word.length(); i++) {
                if (bytes[start + i] != word.charAt(i)) {
                    return false;
                }
            }
            return true;
        }

        private void nextToken() {
            start = end;
            while (start < length && bytes[start] == ' ') {
                start++;
            }
            end = start;
            if (start >= length) {
                token = END;
            } else if (isLetter(bytes[start])) {
                readWord();
            } else if (isDigit(bytes[start])) {
                readNumber();
            } else {
                token = bytes[start] == ';' ? SEMICOLON : OTHER;
                end = start + 1;
            }
        }

        private void readWord() {
            token = WORD;
            while (end < length && isLetter(bytes[end])) {
                end++;
            }
        }

        private void readNumber() {
            token = NUMBER;
            value = 0;
            while (end < length && isDigit(bytes[end])) {
                // Held just above the most, so that many digits don't wrap around.
                value = Math.min(MOST_NUMBER + 1, value * 10 + bytes[end] - '0');
                end++;
            }
        }

        private static boolean isLetter(int b) {
            return b >= 'a' && b <= 'z';
        }

        private static boolean isDigit(int b) {
            return b >= '0' && b <= '9';
        }
    }
}
