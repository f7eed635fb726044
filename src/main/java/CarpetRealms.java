/**
 * Carpets of states on a street of forty yards: whose which yard is, how they wear, and what is best.
 *
 * All rows are made with the object and used again, so that no call makes a new object.
 */
public final class CarpetRealms {
    private static final int BEYOND = -1000000001;
    private static final int FULL = -1000000002;
    private static final int KIND = -1000000003;
    private static final int NONE = -1000000004;
    private static final int STATE = -1000000005;
    private static final int MISSING = -1000000006;
    private static final int SIZE = -1000000007;
    private static final int FINDINGS = 7;

    private static final int YARDS = 40;
    private static final int LAST_YARD = YARDS - 1;
    private static final int LAST_REALM = 3;
    private static final int NOBODY = -1;
    private static final int MOST_RUGS = 8;
    private static final int RUG_SETS = 1 << MOST_RUGS;
    private static final int KINDS = 6;
    private static final int WEEK = 7;
    private static final int RAINY_AT_FIRST = 3;
    private static final int LAST_DAY = 9999;
    private static final int MOST_ROLLS = 99999;
    private static final int MOST_LONG = 20;
    private static final int LONG_AT_FIRST = 8;
    private static final int MOST_PILE = 99;
    private static final int PILE_AT_FIRST = 50;
    private static final int MOST_MOTHS = 9;
    private static final int MOST_BYTES = 120;
    private static final int SHEETS = 4;
    private static final int SHEET_NUMBERS = 40;

    /** How many days the calls let go, look on, weigh, and search. */
    private static final int DAYS_TO_GO = 60;
    private static final int DAYS_TO_LOOK = 200;
    private static final int DAYS_TO_SEARCH = 400;

    private final Kind[] kinds;
    private final World world;
    private final World kept;
    /** What would be: questions and texts are tried out here, so that the world stays as it is. */
    private final World trial;
    /** One carpet as it would be; carpets wear without regard to one another, so one alone can go on. */
    private final Rug probe;
    private final Tape tape;
    private final Sheet[] sheets;
    private final int[] tallies;
    private boolean hasImage;

    public CarpetRealms() {
        Kind plain = new Kind(0, "carpet", null);
        Runner runner = new Runner(1, "runner", plain);
        Velvet velvet = new Velvet(2, "velvet", plain);
        Mat mat = new Mat(3, "mat", plain);
        Stair stair = new Stair(4, "stair", runner);
        Shag shag = new Shag(5, "shag", velvet);
        kinds = new Kind[] {plain, runner, velvet, mat, stair, shag};
        world = new World(plain);
        kept = new World(plain);
        trial = new World(plain);
        probe = new Rug(plain);
        tape = new Tape();
        sheets = new Sheet[SHEETS];
        for (int s = 0; s < SHEETS; s++) {
            sheets[s] = new Sheet();
        }
        tallies = new int[FINDINGS];
    }

    // ---- the street

    public int rain(int place, int v) {
        if (!within(place, 0, WEEK - 1) || !within(v, 0, 1)) {
            return found(BEYOND);
        }
        int was = world.rain[place];
        world.rain[place] = v;
        return was;
    }

    public int yard(int yard, int what) {
        if (!within(yard, 0, LAST_YARD) || !within(what, 0, 2)) {
            return found(BEYOND);
        }
        if (what == 0) {
            return world.ownerAt(yard);
        }
        return what == 1 ? world.topAt(yard) : world.setAt(yard);
    }

    public int owns(int realm) {
        if (!within(realm, NOBODY, LAST_REALM)) {
            return found(BEYOND);
        }
        return world.yardsOf(realm);
    }

    public int borders() {
        int borders = 0;
        for (int y = 0; y < LAST_YARD; y++) {
            if (world.ownerAt(y) != world.ownerAt(y + 1)) {
                borders++;
            }
        }
        return borders;
    }

    public int walk(int yard) {
        if (!within(yard, 0, LAST_YARD)) {
            return found(BEYOND);
        }
        int owner = world.ownerAt(yard);
        int last = yard;
        while (last < LAST_YARD && world.ownerAt(last + 1) == owner) {
            last++;
        }
        int first = yard;
        while (first > 0 && world.ownerAt(first - 1) == owner) {
            first--;
        }
        return last - first + 1;
    }

    public int now(int what) {
        switch (what) {
            case 0:
                return world.day;
            case 1:
                return world.wetAhead(0);
            case 2:
                return world.rolls;
            case 3:
                return world.setOut();
            case 4:
                return world.allPiles();
            default:
                return found(BEYOND);
        }
    }

    // ---- carpets

    public int carpet(int kind, int realm) {
        if (!within(kind, 0, KINDS - 1) || !within(realm, 0, LAST_REALM)) {
            return found(BEYOND);
        }
        int carpet = world.addRug(kinds[kind], realm);
        return carpet < 0 ? found(FULL) : carpet;
    }

    public int of(int carpet, int what) {
        if (!isRug(carpet)) {
            return found(BEYOND);
        }
        Rug rug = world.rugs[carpet];
        switch (what) {
            case 0:
                return rug.kind.number;
            case 1:
            case 2:
            case 3:
            case 4:
                return rug.valueOf(what);
            case 5:
                return rug.from;
            case 6:
                return rug.kind.reaches(rug);
            case 7:
                return rug.kind.wears(rug, world.wetAhead(0));
            case 8:
                return rug.kind.breeds(world.wetAhead(0));
            case 9:
                return rug.kind.gains(rug);
            default:
                return found(BEYOND);
        }
    }

    public int set(int carpet, int what, int v) {
        if (!isRug(carpet) || !maySet(what, v)) {
            return found(BEYOND);
        }
        Rug rug = world.rugs[carpet];
        int was = rug.valueOf(what);
        rug.putValue(what, v);
        return was;
    }

    public int turn(int carpet, int kind) {
        if (!isRug(carpet) || !within(kind, 0, KINDS - 1)) {
            return found(BEYOND);
        }
        Rug rug = world.rugs[carpet];
        int was = rug.kind.number;
        rug.kind = kinds[kind];
        return was;
    }

    public int as(int carpet, int kind) {
        if (!isRug(carpet) || !within(kind, 0, KINDS - 1)) {
            return found(BEYOND);
        }
        Rug rug = world.rugs[carpet];
        if (!rug.kind.isOrIsUnder(kind)) {
            return found(KIND);
        }
        return rug.pile;
    }

    public int roll(int carpet, int yard) {
        if (!isRug(carpet) || !within(yard, 0, LAST_YARD)) {
            return found(BEYOND);
        }
        Rug rug = world.rugs[carpet];
        if (rug.pile == 0) {
            return found(STATE);
        }
        world.layOut(rug, yard);
        return rug.yardsCovered();
    }

    public int up(int carpet) {
        if (!isRug(carpet)) {
            return found(BEYOND);
        }
        Rug rug = world.rugs[carpet];
        if (!rug.isOut()) {
            return found(STATE);
        }
        int was = rug.from;
        rug.putAway();
        return was;
    }

    public int beat(int carpet) {
        if (!isRug(carpet)) {
            return found(BEYOND);
        }
        Rug rug = world.rugs[carpet];
        rug.pile = Math.max(0, Math.min(MOST_PILE, rug.pile + rug.kind.gains(rug)));
        rug.moths = 0;
        return rug.pile;
    }

    // ---- days

    public int days(int n) {
        if (!within(n, 1, DAYS_TO_GO)) {
            return found(BEYOND);
        }
        if (world.day > LAST_DAY - n) {
            return found(STATE);
        }
        world.passDays(n);
        return world.setOut();
    }

    public int on(int carpet, int n, int what) {
        if (!isRug(carpet) || !within(n, 0, DAYS_TO_LOOK) || !within(what, 0, 2)) {
            return found(BEYOND);
        }
        probe.become(world.rugs[carpet]);
        passProbe(n);
        if (what == 0) {
            return probe.pile;
        }
        return what == 1 ? probe.moths : probe.from;
    }

    public int ownsOn(int realm, int n) {
        if (!within(realm, NOBODY, LAST_REALM) || !within(n, 0, DAYS_TO_LOOK)) {
            return found(BEYOND);
        }
        trial.become(world);
        trial.passDays(n);
        return trial.yardsOf(realm);
    }

    public int ends(int carpet) {
        if (!isRug(carpet)) {
            return found(BEYOND);
        }
        probe.become(world.rugs[carpet]);
        int days = daysProbeLies();
        return days > DAYS_TO_SEARCH ? found(NONE) : days;
    }

    public int bare(int carpet) {
        if (!isRug(carpet)) {
            return found(BEYOND);
        }
        probe.become(world.rugs[carpet]);
        for (int d = 0; d <= DAYS_TO_SEARCH; d++) {
            if (probe.pile == 0) {
                return d;
            }
            probe.passDay(world.wetAhead(d));
        }
        return found(NONE);
    }

    public int changes(int yard) {
        if (!within(yard, 0, LAST_YARD)) {
            return found(BEYOND);
        }
        int owner = world.ownerAt(yard);
        trial.become(world);
        for (int d = 1; d <= DAYS_TO_SEARCH; d++) {
            trial.passDays(1);
            if (trial.ownerAt(yard) != owner) {
                return d;
            }
        }
        return found(NONE);
    }

    // ---- what is best

    public int best(int carpet, int n) {
        if (!isRug(carpet) || !within(n, 0, DAYS_TO_GO)) {
            return found(BEYOND);
        }
        if (world.rugs[carpet].pile == 0) {
            return found(STATE);
        }
        trial.become(world);
        Rug rug = trial.rugs[carpet];
        trial.layOut(rug, 0);
        trial.passDays(n);
        return rug.isOut() ? bestYardInTrial(rug) : 0;
    }

    public int take(int realm, int n) {
        if (!within(realm, 0, LAST_REALM) || !within(n, 0, DAYS_TO_GO)) {
            return found(BEYOND);
        }
        trial.become(world);
        trial.passDays(n);
        trial.survey();
        int best = -1;
        int most = -1;
        for (int c = 0; c < world.count; c++) {
            if (world.rugs[c].isOut()) {
                int has = trial.yardsWithout(realm, 1 << c);
                if (has > most) {
                    most = has;
                    best = c;
                }
            }
        }
        return best < 0 ? found(NONE) : best;
    }

    public int kind(int carpet) {
        if (!isRug(carpet)) {
            return found(BEYOND);
        }
        int best = 0;
        int longest = -1;
        for (int k = 0; k < KINDS; k++) {
            probe.become(world.rugs[carpet]);
            probe.kind = kinds[k];
            int days = daysProbeLies();
            if (days > longest) {
                longest = days;
                best = k;
            }
        }
        return best;
    }

    public int enough(int carpet, int n) {
        if (!isRug(carpet) || !within(n, 1, DAYS_TO_GO)) {
            return found(BEYOND);
        }
        for (int pile = 0; pile <= MOST_PILE; pile++) {
            probe.become(world.rugs[carpet]);
            probe.pile = pile;
            passProbe(n);
            if (probe.isOut()) {
                return pile;
            }
        }
        return found(NONE);
    }

    public int weather(int n) {
        if (!within(n, 1, DAYS_TO_GO)) {
            return found(BEYOND);
        }
        int best = 0;
        int most = -1;
        for (int place = 0; place < WEEK; place++) {
            trial.become(world);
            trial.rain[place] = 1 - trial.rain[place];
            trial.passDays(n);
            int piles = trial.allPiles();
            if (piles > most) {
                most = piles;
                best = place;
            }
        }
        return best;
    }

    public int fewest(int realm, int v) {
        if (!within(realm, 0, LAST_REALM) || !within(v, 0, YARDS)) {
            return found(BEYOND);
        }
        int out = world.setOut();
        world.survey();
        int best = -1;
        int size = MOST_RUGS + 1;
        for (int set = 0; set < RUG_SETS; set++) {
            boolean isOut = (set & ~out) == 0;
            if (isOut && Integer.bitCount(set) < size && world.yardsWithout(realm, set) >= v) {
                best = set;
                size = Integer.bitCount(set);
            }
        }
        return best < 0 ? found(NONE) : best;
    }

    // ---- the text

    public int feed(int bytes, int n) {
        if (!within(n, 1, 4)) {
            return found(BEYOND);
        }
        if (tape.length > MOST_BYTES - n) {
            return found(FULL);
        }
        for (int i = n - 1; i >= 0; i--) {
            tape.addByte(bytes >> (8 * i) & 255);
        }
        return tape.length;
    }

    public int wipe() {
        int had = tape.length;
        tape.length = 0;
        return had;
    }

    public int palace() {
        trial.become(world);
        int answer = PalaceReader.tell(tape, trial, kinds);
        tape.length = 0;
        if (answer >= 0) {
            world.become(trial);
        }
        return answer;
    }

    // ---- sheets

    public int sheet(int s, int bits, int n) {
        if (!isSheet(s) || (bits != 0 && bits != 8 && bits != 16 && bits != 64)) {
            return found(BEYOND);
        }
        if (n < 0) {
            return found(SIZE);
        }
        if (n > SHEET_NUMBERS) {
            return found(BEYOND);
        }
        sheets[s].begin(bits, bits == 0 ? 0 : n);
        return sheets[s].length;
    }

    public long write(int s, int i, long v) {
        if (!isSheet(s)) {
            return found(BEYOND);
        }
        Sheet sheet = sheets[s];
        if (sheet.isMissing()) {
            return found(MISSING);
        }
        if (!within(i, 0, sheet.length - 1)) {
            return found(BEYOND);
        }
        long was = sheet.numbers[i];
        sheet.putNumber(i, v);
        return was;
    }

    public int copy(int s, int from, int t, int to, int n) {
        if (!isSheet(s) || !isSheet(t)) {
            return found(BEYOND);
        }
        Sheet source = sheets[s];
        Sheet target = sheets[t];
        if (source.isMissing() || target.isMissing()) {
            return found(MISSING);
        }
        if (source.bits != target.bits) {
            return found(KIND);
        }
        if (!source.hasRow(from, n) || !target.hasRow(to, n)) {
            return found(BEYOND);
        }
        System.arraycopy(source.numbers, from, target.numbers, to, n);
        return n;
    }

    public int lays(int s) {
        int finding = sheetFinding(s);
        if (finding != 0) {
            return found(finding);
        }
        Sheet sheet = sheets[s];
        int came = 0;
        for (int c = 0; c < sheet.length && c < world.count; c++) {
            long pile = sheet.numbers[c];
            if (pile >= 0 && pile <= MOST_PILE) {
                world.rugs[c].pile = (int) pile;
                came++;
            }
        }
        return came;
    }

    public int book(int s, int carpet) {
        int finding = sheetAndRugFinding(s, carpet);
        if (finding != 0) {
            return found(finding);
        }
        Sheet sheet = sheets[s];
        probe.become(world.rugs[carpet]);
        for (int d = 0; d < sheet.length; d++) {
            sheet.putNumber(d, probe.pile);
            probe.passDay(world.wetAhead(d));
        }
        return sheet.length;
    }

    public int read(int s, int carpet) {
        int finding = sheetAndRugFinding(s, carpet);
        if (finding != 0) {
            return found(finding);
        }
        int pairs = 0;
        for (int k = 0; k < KINDS; k++) {
            for (int moths = 0; moths <= MOST_MOTHS; moths++) {
                probe.become(world.rugs[carpet]);
                probe.kind = kinds[k];
                probe.moths = moths;
                if (probeWearsAs(sheets[s])) {
                    pairs++;
                }
            }
        }
        return pairs;
    }

    // ---- images

    public int image() {
        kept.become(world);
        hasImage = true;
        return 1;
    }

    public int undo() {
        if (!hasImage) {
            return found(NONE);
        }
        world.become(kept);
        return world.count;
    }

    public int tear() {
        int was = hasImage ? 1 : 0;
        hasImage = false;
        return was;
    }

    public int count(int what) {
        switch (what) {
            case 0:
                return world.count;
            case 1:
                return tape.length;
            case 2:
                return Integer.bitCount(world.setOut());
            case 3:
                return world.allMoths();
            default:
                return found(BEYOND);
        }
    }

    public int status(int which) {
        if (!within(which, -1, FINDINGS - 1)) {
            return found(BEYOND);
        }
        if (which >= 0) {
            return tallies[which];
        }
        int all = 0;
        for (int i = 0; i < FINDINGS; i++) {
            all += tallies[i];
        }
        return all;
    }

    // ---- what the calls share

    private static boolean within(int v, int least, int most) {
        return v >= least && v <= most;
    }

    private int found(int finding) {
        int place = BEYOND - finding;
        if (within(place, 0, FINDINGS - 1)) {
            tallies[place]++;
        }
        return finding;
    }

    private boolean isRug(int carpet) {
        return within(carpet, 0, world.count - 1);
    }

    private boolean isSheet(int s) {
        return within(s, 0, SHEETS - 1);
    }

    private static boolean maySet(int what, int v) {
        switch (what) {
            case 1:
                return within(v, 0, LAST_REALM);
            case 2:
                return within(v, 1, MOST_LONG);
            case 3:
                return within(v, 0, MOST_PILE);
            case 4:
                return within(v, 0, MOST_MOTHS);
            default:
                return false;
        }
    }

    /** 0 where there is nothing to find: so the caller alone counts what it answers. */
    private int sheetFinding(int s) {
        if (!isSheet(s)) {
            return BEYOND;
        }
        return sheets[s].isMissing() ? MISSING : 0;
    }

    private int sheetAndRugFinding(int s, int carpet) {
        int finding = sheetFinding(s);
        if (finding != 0) {
            return finding;
        }
        return isRug(carpet) ? 0 : BEYOND;
    }

    private void passProbe(int n) {
        for (int d = 0; d < n; d++) {
            probe.passDay(world.wetAhead(d));
        }
    }

    /** In how many days the probe is rolled up first; one above the search if it isn't. */
    private int daysProbeLies() {
        for (int d = 0; d <= DAYS_TO_SEARCH; d++) {
            if (!probe.isOut()) {
                return d;
            }
            probe.passDay(world.wetAhead(d));
        }
        return DAYS_TO_SEARCH + 1;
    }

    private boolean probeWearsAs(Sheet sheet) {
        for (int d = 0; d < sheet.length; d++) {
            if (sheet.numbers[d] != probe.pile) {
                return false;
            }
            probe.passDay(world.wetAhead(d));
        }
        return true;
    }

    /** Where a carpet lies doesn't change how anything wears, so it is moved after the days have gone. */
    private int bestYardInTrial(Rug rug) {
        int best = 0;
        int most = -1;
        for (int y = 0; y < YARDS; y++) {
            rug.from = y;
            trial.survey();
            int has = trial.yardsWithout(rug.realm, 0);
            if (has > most) {
                most = has;
                best = y;
            }
        }
        return best;
    }

    /** The kind CARPET; the other kinds stand under it and tell only in what they differ from the one above. */
    static class Kind {
        final int number;
        final String name;
        final Kind above;

        Kind(int number, String name, Kind above) {
            this.number = number;
            this.name = name;
            this.above = above;
        }

        final boolean isOrIsUnder(int other) {
            for (Kind k = this; k != null; k = k.above) {
                if (k.number == other) {
                    return true;
                }
            }
            return false;
        }

        int reaches(Rug rug) {
            return rug.yardsLong;
        }

        int wears(Rug rug, int wet) {
            return 1 + 2 * wet;
        }

        int breeds(int wet) {
            return 1;
        }

        int gains(Rug rug) {
            return 10;
        }
    }

    static class Runner extends Kind {
        Runner(int number, String name, Kind above) {
            super(number, name, above);
        }

        int reaches(Rug rug) {
            return 2 * rug.yardsLong;
        }

        int wears(Rug rug, int wet) {
            return super.wears(rug, wet) + 1;
        }

        int gains(Rug rug) {
            return super.gains(rug) - rug.moths;
        }
    }

    static class Velvet extends Kind {
        Velvet(int number, String name, Kind above) {
            super(number, name, above);
        }

        int wears(Rug rug, int wet) {
            return super.wears(rug, wet) / 2;
        }

        int breeds(int wet) {
            return super.breeds(wet) + 1;
        }

        int gains(Rug rug) {
            return super.gains(rug) - 4;
        }
    }

    static final class Mat extends Kind {
        Mat(int number, String name, Kind above) {
            super(number, name, above);
        }

        int reaches(Rug rug) {
            return 2;
        }

        int wears(Rug rug, int wet) {
            return 0;
        }

        int breeds(int wet) {
            return 0;
        }

        int gains(Rug rug) {
            return 0;
        }
    }

    static final class Stair extends Runner {
        Stair(int number, String name, Kind above) {
            super(number, name, above);
        }

        int reaches(Rug rug) {
            return Math.max(1, super.reaches(rug) - 3);
        }

        int wears(Rug rug, int wet) {
            return super.wears(rug, wet) + rug.moths;
        }
    }

    static final class Shag extends Velvet {
        private static final int THIN_BELOW = 20;

        Shag(int number, String name, Kind above) {
            super(number, name, above);
        }

        int reaches(Rug rug) {
            int whole = super.reaches(rug);
            return rug.pile < THIN_BELOW ? Math.max(1, whole / 2) : whole;
        }

        int wears(Rug rug, int wet) {
            return super.wears(rug, wet) + wet;
        }

        int breeds(int wet) {
            return wet == 1 ? 0 : super.breeds(wet);
        }

        int gains(Rug rug) {
            return 2 * super.gains(rug);
        }
    }

    /** A carpet. */
    static final class Rug {
        Kind kind;
        int realm;
        int yardsLong;
        int pile;
        int moths;
        int from;
        int rolledAt;

        Rug(Kind kind) {
            this.kind = kind;
            this.from = -1;
        }

        void begin(Kind newKind, int newRealm) {
            kind = newKind;
            realm = newRealm;
            yardsLong = LONG_AT_FIRST;
            pile = PILE_AT_FIRST;
            moths = 0;
            putAway();
        }

        void become(Rug other) {
            kind = other.kind;
            realm = other.realm;
            yardsLong = other.yardsLong;
            pile = other.pile;
            moths = other.moths;
            from = other.from;
            rolledAt = other.rolledAt;
        }

        int valueOf(int what) {
            switch (what) {
                case 1:
                    return realm;
                case 2:
                    return yardsLong;
                case 3:
                    return pile;
                default:
                    return moths;
            }
        }

        void putValue(int what, int v) {
            switch (what) {
                case 1:
                    realm = v;
                    break;
                case 2:
                    yardsLong = v;
                    break;
                case 3:
                    pile = v;
                    break;
                default:
                    moths = v;
                    break;
            }
        }

        boolean isOut() {
            return from >= 0;
        }

        void putAway() {
            from = -1;
            rolledAt = 0;
        }

        /** On how many yards it lies: what hangs over the street's end doesn't count. */
        int yardsCovered() {
            return isOut() ? Math.min(kind.reaches(this), YARDS - from) : 0;
        }

        boolean covers(int yard) {
            return isOut() && yard >= from && yard < from + yardsCovered();
        }

        /** The yards that it covers, as a set. */
        long span() {
            return isOut() ? ((1L << yardsCovered()) - 1) << from : 0;
        }

        void passDay(int wet) {
            if (isOut()) {
                pile = Math.max(0, pile - kind.wears(this, wet));
                if (pile == 0) {
                    putAway();
                }
            } else {
                moths = Math.min(MOST_MOTHS, moths + kind.breeds(wet));
                pile = Math.max(0, pile - moths / 3);
            }
        }
    }

    /** All that section 1 of the document tells, but for the tape. */
    static final class World {
        final Rug[] rugs;
        final int[] rain;
        int count;
        int day;
        int rolls;
        /** The carpets that are rolled out, the latest first, and what each covers: as of the last survey. */
        private final int[] layers;
        private final long[] spans;
        private int layerCount;

        World(Kind plain) {
            rugs = new Rug[MOST_RUGS];
            for (int c = 0; c < MOST_RUGS; c++) {
                rugs[c] = new Rug(plain);
            }
            rain = new int[WEEK];
            rain[RAINY_AT_FIRST] = 1;
            layers = new int[MOST_RUGS];
            spans = new long[MOST_RUGS];
        }

        void become(World other) {
            for (int c = 0; c < other.count; c++) {
                rugs[c].become(other.rugs[c]);
            }
            System.arraycopy(other.rain, 0, rain, 0, WEEK);
            count = other.count;
            day = other.day;
            rolls = other.rolls;
        }

        /** Its number, or -1 if there are as many as may be. */
        int addRug(Kind kind, int realm) {
            if (count >= MOST_RUGS) {
                return -1;
            }
            rugs[count].begin(kind, realm);
            count++;
            return count - 1;
        }

        void layOut(Rug rug, int yard) {
            rolls = Math.min(MOST_ROLLS, rolls + 1);
            rug.rolledAt = rolls;
            rug.from = yard;
        }

        int wetAhead(int days) {
            return rain[Math.floorMod(day + days, WEEK)];
        }

        void passDays(int n) {
            for (int d = 0; d < n; d++) {
                int wet = wetAhead(0);
                for (int c = 0; c < count; c++) {
                    rugs[c].passDay(wet);
                }
                day++;
            }
        }

        int topAt(int yard) {
            int top = -1;
            for (int c = 0; c < count; c++) {
                if (rugs[c].covers(yard) && (top < 0 || rugs[c].rolledAt > rugs[top].rolledAt)) {
                    top = c;
                }
            }
            return top;
        }

        int ownerAt(int yard) {
            int top = topAt(yard);
            return top < 0 ? NOBODY : rugs[top].realm;
        }

        int setAt(int yard) {
            int set = 0;
            for (int c = 0; c < count; c++) {
                if (rugs[c].covers(yard)) {
                    set |= 1 << c;
                }
            }
            return set;
        }

        int setOut() {
            int set = 0;
            for (int c = 0; c < count; c++) {
                if (rugs[c].isOut()) {
                    set |= 1 << c;
                }
            }
            return set;
        }

        int allPiles() {
            int piles = 0;
            for (int c = 0; c < count; c++) {
                piles += rugs[c].pile;
            }
            return piles;
        }

        int allMoths() {
            int moths = 0;
            for (int c = 0; c < count; c++) {
                moths += rugs[c].moths;
            }
            return moths;
        }

        int yardsOf(int realm) {
            survey();
            return yardsWithout(realm, 0);
        }

        /** Puts the layers in their order once, so that many sets can be left out of them cheaply. */
        void survey() {
            layerCount = 0;
            for (int c = 0; c < count; c++) {
                if (rugs[c].isOut()) {
                    spans[c] = rugs[c].span();
                    addLayer(c);
                }
            }
        }

        private void addLayer(int c) {
            int at = layerCount;
            while (at > 0 && rugs[layers[at - 1]].rolledAt < rugs[c].rolledAt) {
                layers[at] = layers[at - 1];
                at--;
            }
            layers[at] = c;
            layerCount++;
        }

        /** How many yards a realm has (or nobody) as of the last survey, if the carpets of a set weren't there. */
        int yardsWithout(int realm, int leftOut) {
            long covered = 0;
            long held = 0;
            for (int i = 0; i < layerCount; i++) {
                int c = layers[i];
                if ((leftOut >> c & 1) == 0) {
                    long inSight = spans[c] & ~covered;
                    covered |= inSight;
                    if (rugs[c].realm == realm) {
                        held |= inSight;
                    }
                }
            }
            return realm == NOBODY ? YARDS - Long.bitCount(covered) : Long.bitCount(held);
        }
    }

    /** A row of numbers of so many bits; of 0 bits: it is missing. */
    static final class Sheet {
        final long[] numbers;
        int bits;
        int length;

        Sheet() {
            numbers = new long[SHEET_NUMBERS];
        }

        void begin(int newBits, int newLength) {
            bits = newBits;
            length = newLength;
            for (int i = 0; i < SHEET_NUMBERS; i++) {
                numbers[i] = 0;
            }
        }

        boolean isMissing() {
            return bits == 0;
        }

        /** Tested without a sum, which could wrap around. */
        boolean hasRow(int start, int n) {
            return start >= 0 && n >= 0 && start <= length && n <= length - start;
        }

        /** Only for a number that the sheet has; its lowest bits are kept, as Java's byte, short and long have them. */
        void putNumber(int i, long v) {
            if (i < 0 || i >= length) {
                return;
            }
            if (bits == 8) {
                numbers[i] = (byte) v;
            } else if (bits == 16) {
                numbers[i] = (short) v;
            } else {
                numbers[i] = v;
            }
        }
    }

    /** The bytes of a text, and the token at which its reading stands. */
    static final class Tape {
        static final int END = 0;
        static final int WORD = 1;
        static final int NUMBER = 2;
        static final int SIGN = 3;
        static final int OTHER = 4;
        /** No number that may stand in a text, nor where a carpet is that isn't rolled out. */
        static final int FAULT = -2;
        /** Above all numbers that may be: a longer row of digits stays there and can't wrap around. */
        private static final int TOO_MUCH = 1000;

        final int[] bytes;
        int length;
        int token;
        int start;
        private int end;
        private int value;

        Tape() {
            bytes = new int[MOST_BYTES];
        }

        void addByte(int b) {
            if (length < MOST_BYTES) {
                bytes[length] = b;
                length++;
            }
        }

        void toFirstToken() {
            end = 0;
            toNextToken();
        }

        void toNextToken() {
            start = end;
            while (start < length && bytes[start] == ' ') {
                start++;
            }
            token = start < length ? tokenBegunBy(bytes[start]) : END;
            boolean isRow = token == WORD || token == NUMBER;
            end = isRow ? start : Math.min(length, start + 1);
            value = 0;
            while (isRow && end < length && tokenBegunBy(bytes[end]) == token) {
                if (token == NUMBER) {
                    value = Math.min(TOO_MUCH, 10 * value + bytes[end] - '0');
                }
                end++;
            }
        }

        private static int tokenBegunBy(int b) {
            if (b >= 'a' && b <= 'z') {
                return WORD;
            }
            if (b >= '0' && b <= '9') {
                return NUMBER;
            }
            return b == ';' ? SIGN : OTHER;
        }

        boolean isWord(String word) {
            if (token != WORD || end - start != word.length()) {
                return false;
            }
            for (int i = 0; i < word.length(); i++) {
                if (bytes[start + i] != word.charAt(i)) {
                    return false;
                }
            }
            return true;
        }

        /** Whether a word stands here; it goes on behind it then. */
        boolean passesWord(String word) {
            if (!isWord(word)) {
                return false;
            }
            toNextToken();
            return true;
        }

        /** The number that stands here, or a fault, if none from the least to the most does. */
        int numberHere(int least, int most) {
            return token == NUMBER && value >= least && value <= most ? value : FAULT;
        }

        /** As numberHere; it goes on behind it if it is no fault. */
        int passNumber(int least, int most) {
            int number = numberHere(least, most);
            if (number != FAULT) {
                toNextToken();
            }
            return number;
        }
    }

    /**
     * Reads the text of a palace into a world.
     *
     * It never goes on past a token that can't stand where it stands: so where it stops, there the fault is.
     */
    static final class PalaceReader {
        private PalaceReader() {
        }

        /** How many items there were, or -1 less the place of the fault (the world is spoilt then). */
        static int tell(Tape tape, World world, Kind[] kinds) {
            tape.toFirstToken();
            for (int items = 1; items <= MOST_BYTES; items++) {
                if (!readItem(tape, world, kinds)) {
                    break;
                }
                if (tape.token == Tape.END) {
                    return items;
                }
                if (tape.token != Tape.SIGN) {
                    break;
                }
                tape.toNextToken();
            }
            return -1 - tape.start;
        }

        private static boolean readItem(Tape tape, World world, Kind[] kinds) {
            if (tape.passesWord("up")) {
                return readUp(tape, world);
            }
            if (tape.passesWord("rain")) {
                return readPlace(tape, world, 1);
            }
            if (tape.passesWord("dry")) {
                return readPlace(tape, world, 0);
            }
            for (int k = 0; k < kinds.length; k++) {
                if (tape.isWord(kinds[k].name)) {
                    return readRug(tape, world, kinds[k]);
                }
            }
            return false;
        }

        private static boolean readUp(Tape tape, World world) {
            int c = tape.numberHere(0, world.count - 1);
            if (c < 0 || !world.rugs[c].isOut()) {
                return false;
            }
            world.rugs[c].putAway();
            tape.toNextToken();
            return true;
        }

        private static boolean readPlace(Tape tape, World world, int wet) {
            int place = tape.passNumber(0, WEEK - 1);
            if (place < 0) {
                return false;
            }
            world.rain[place] = wet;
            return true;
        }

        /** Behind the name of its kind; the name itself is the fault of one too many. */
        private static boolean readRug(Tape tape, World world, Kind kind) {
            int c = world.addRug(kind, 0);
            if (c < 0) {
                return false;
            }
            Rug rug = world.rugs[c];
            tape.toNextToken();
            rug.realm = tape.passNumber(0, LAST_REALM);
            if (rug.realm == Tape.FAULT) {
                return false;
            }
            rug.yardsLong = tape.passesWord("long") ? tape.passNumber(1, MOST_LONG) : LONG_AT_FIRST;
            if (rug.yardsLong == Tape.FAULT) {
                return false;
            }
            rug.pile = tape.passesWord("pile") ? tape.passNumber(0, MOST_PILE) : PILE_AT_FIRST;
            if (rug.pile == Tape.FAULT) {
                return false;
            }
            int from = tape.passesWord("from") ? tape.passNumber(0, LAST_YARD) : -1;
            if (from >= 0) {
                world.layOut(rug, from);
            }
            return from != Tape.FAULT;
        }
    }
}
