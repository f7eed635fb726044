import java.util.ArrayList;
import java.util.List;
import java.util.Random;
import java.util.regex.Matcher;
import java.util.regex.Pattern;

/**
 * Long runs of drawn calls (the same ones every time), each answer held against a model that does the document's
 * words one by one: it tries everything out on whole copies and takes none of the program's short cuts.
 */
public final class ModelTest {
    private static final int RUNS = 3000;
    private static final int CALLS = 512;
    private static final int FAULTS_TOLD = 20;

    private ModelTest() {
    }

    public static void main(String[] args) {
        int wrong = 0;
        int[] counts = new int[Call.values().length];
        for (int run = 0; run < RUNS && wrong < FAULTS_TOLD; run++) {
            wrong += new Run(run, counts).go();
        }
        for (Call call : Call.values()) {
            if (counts[call.ordinal()] < RUNS / 2) {
                wrong++;
                System.out.println(call + " was called only " + counts[call.ordinal()] + " times");
            }
        }
        System.out.println(wrong == 0 ? "the model and the class agree" : wrong + " answers are not as the model has them");
        if (wrong != 0) {
            System.exit(1);
        }
    }

    enum Call {
        rain, yard, owns, borders, walk, now, carpet, of, set, turn, as, roll, up, beat, days, on, ownsOn, ends, bare,
        changes, best, take, kind, enough, weather, fewest, feed, wipe, palace, sheet, write, copy, lays, book, read,
        image, undo, tear, count, status
    }

    /** One object, one model, and the calls that both get. */
    static final class Run {
        final int number;
        final Random random;
        final int[] counts;
        final CarpetRealms object = new CarpetRealms();
        final Model model = new Model();
        final List<String> told = new ArrayList<>();
        int calls = 0;
        int wrong = 0;

        Run(int number, int[] counts) {
            this.number = number;
            this.random = new Random(7919L * number + 13);
            this.counts = counts;
        }

        int go() {
            // Some runs get to the last day, some have carpets from the start, some are mostly texts.
            int manner = random.nextInt(6);
            if (manner == 0) {
                for (int i = 0; i < 168 && wrong == 0; i++) {
                    make(Call.days, i < 165 ? 60 : 30 + random.nextInt(30));
                }
            }
            if (manner != 1) {
                int some = random.nextInt(9);
                for (int i = 0; i < some; i++) {
                    make(Call.carpet, random.nextInt(6), random.nextInt(4));
                }
            }
            while (calls < CALLS && wrong == 0) {
                if (random.nextInt(manner == 2 ? 3 : 30) == 0) {
                    feedText();
                } else {
                    draw();
                }
            }
            return wrong;
        }

        private void make(Call call, long... a) {
            if (calls >= CALLS || wrong != 0) {
                return;
            }
            calls++;
            counts[call.ordinal()]++;
            StringBuilder line = new StringBuilder(call + "(");
            for (int i = 0; i < a.length; i++) {
                line.append(i == 0 ? "" : ", ").append(a[i]);
            }
            line.append(")");
            long due = onModel(call, a);
            long got;
            try {
                got = onObject(call, a);
            } catch (RuntimeException e) {
                tell(line + " threw " + e + ", due is " + due);
                return;
            }
            told.add(line + " -> " + got);
            if (got != due) {
                tell(line + " answered " + got + ", due is " + due);
            }
        }

        private void tell(String what) {
            wrong++;
            System.out.println("run " + number + ", call " + calls + ": " + what);
            for (int i = Math.max(0, told.size() - 40); i < told.size(); i++) {
                System.out.println("    " + told.get(i));
            }
        }

        /** From least to most, now and then one beyond, and seldom something wild. */
        private int some(int least, int most) {
            int r = random.nextInt(60);
            if (r == 0) {
                return least - 1;
            }
            if (r == 1) {
                return most + 1;
            }
            if (r == 2) {
                int[] wild = {Integer.MIN_VALUE, Integer.MAX_VALUE, -1000000001, 255, 256, 65536, -1, least, most};
                return wild[random.nextInt(wild.length)];
            }
            return least + random.nextInt(most - least + 1);
        }

        private int aRug() {
            int n = model.w.rugs.size();
            return n == 0 ? some(0, 7) : some(0, n - 1);
        }

        private int someDays(int least, int most) {
            return random.nextInt(3) == 0 ? some(least, most) : some(least, Math.min(most, least + 9));
        }

        private void draw() {
            Call[] all = Call.values();
            Call call = all[random.nextInt(all.length)];
            switch (call) {
                case rain: make(call, some(0, 6), some(0, 1)); break;
                case yard: make(call, some(0, 39), some(0, 2)); break;
                case owns: make(call, some(-1, 3)); break;
                case walk: case changes: make(call, some(0, 39)); break;
                case now: make(call, some(0, 4)); break;
                case carpet: if (random.nextInt(4) == 0) make(call, some(0, 5), some(0, 3)); break;
                case of: make(call, aRug(), some(0, 9)); break;
                case set: drawSet(); break;
                case turn: case as: make(call, aRug(), some(0, 5)); break;
                case roll: for (int i = 0; i < 3; i++) make(call, aRug(), some(0, 39)); break;
                case up: case beat: case ends: case bare: case kind: make(call, aRug()); break;
                case days: make(call, someDays(1, 60)); break;
                case on: make(call, aRug(), someDays(0, 200), some(0, 2)); break;
                case ownsOn: make(call, some(-1, 3), someDays(0, 200)); break;
                case best: make(call, aRug(), someDays(0, 60)); break;
                case take: make(call, some(0, 3), someDays(0, 60)); break;
                case enough: make(call, aRug(), someDays(1, 60)); break;
                case weather: make(call, someDays(1, 60)); break;
                case fewest: make(call, some(0, 3), random.nextInt(3) == 0 ? some(0, 40) : some(0, 16)); break;
                case feed: make(call, random.nextInt(), some(1, 4)); break;
                case sheet: drawSheet(); break;
                case write: drawWrite(); break;
                case copy: make(call, some(0, 3), some(0, 40), some(0, 3), some(0, 40), random.nextInt(2) == 0 ? some(0, 40) : some(0, 6)); break;
                case lays: make(call, some(0, 3)); break;
                case book: make(call, some(0, 3), aRug()); break;
                case read: drawRead(); break;
                case undo: if (random.nextInt(4) == 0) make(call); break;
                case count: make(call, some(0, 3)); break;
                case status: make(call, some(-1, 6)); break;
                default: make(call); break;
            }
        }

        private void drawSet() {
            int what = some(1, 4);
            int most = what == 1 ? 3 : what == 2 ? 20 : what == 3 ? 99 : 9;
            make(Call.set, aRug(), what, some(what == 2 ? 1 : 0, most));
        }

        private void drawSheet() {
            int[] bits = {8, 16, 64, 8, 16, 64, 8, 16, 64, 0, 32, -8};
            int n = random.nextInt(3) == 0 ? some(0, 40) : random.nextInt(12);
            make(Call.sheet, some(0, 3), bits[random.nextInt(bits.length)], n);
        }

        private void drawWrite() {
            long v = random.nextInt(3) == 0 ? random.nextLong() : some(-3, 130);
            make(Call.write, some(0, 3), random.nextInt(3) == 0 ? some(0, 39) : some(0, 8), v);
        }

        /** A book that one carpet wrote, read as it is or after a change: else nearly all answers would be 0. */
        private void drawRead() {
            int s = random.nextInt(4);
            int c = aRug();
            if (random.nextInt(3) != 0) {
                make(Call.sheet, s, 8 << random.nextInt(2), random.nextInt(9));
                make(Call.book, s, c);
                if (random.nextInt(4) == 0) {
                    make(Call.turn, c, random.nextInt(6));
                }
                if (random.nextInt(4) == 0) {
                    make(Call.set, c, 4, random.nextInt(10));
                }
            }
            make(Call.read, random.nextInt(8) == 0 ? some(0, 3) : s, c);
        }

        private void feedText() {
            String text = drawText();
            if (random.nextInt(3) != 0) {
                make(Call.wipe);
            }
            for (int i = 0; i < text.length(); ) {
                int n = Math.min(random.nextInt(8) == 0 ? 1 + random.nextInt(4) : 4, text.length() - i);
                int bytes = n < 4 ? random.nextInt() << 8 * n : 0;
                for (int k = 0; k < n; k++) {
                    bytes |= (text.charAt(i + k) & 255) << 8 * (n - 1 - k);
                }
                make(Call.feed, bytes, n);
                i += n;
            }
            make(Call.palace);
            make(Call.now, 2);
            make(Call.now, 3);
            make(Call.count, 0);
            int last = model.w.rugs.size() - 1;
            for (int what = 0; what < 6; what++) {
                make(Call.of, last, what);
            }
        }

        private String drawText() {
            StringBuilder text = new StringBuilder();
            int items = 1 + random.nextInt(5);
            for (int i = 0; i < items; i++) {
                text.append(i == 0 ? "" : gap() + ";" + gap()).append(drawItem());
            }
            if (random.nextInt(3) == 0 && text.length() > 0) {
                spoil(text);
            }
            return text.length() > 124 ? text.substring(0, 124) : text.toString();
        }

        private String gap() {
            String[] gaps = {"", "", " ", "  "};
            return gaps[random.nextInt(gaps.length)];
        }

        private String numeral(int least, int most) {
            String zeros = random.nextInt(12) == 0 ? "00000".substring(random.nextInt(5)) : "";
            int v = random.nextInt(25) == 0 ? most + 1 + random.nextInt(3) * 500 : random.nextInt(25) == 0 ? Math.max(0, least - 1) : least + random.nextInt(most - least + 1);
            String huge = random.nextInt(200) == 0 ? "4294967296" : "";
            return zeros + (huge.isEmpty() ? v : huge);
        }

        private String drawItem() {
            int r = random.nextInt(8);
            if (r == 0) {
                int set = model.setOut(model.w);
                int c = set != 0 && random.nextInt(3) != 0 ? Integer.numberOfTrailingZeros(set) : random.nextInt(9);
                return "up" + gap() + c;
            }
            if (r == 1) {
                return (random.nextBoolean() ? "rain" : "dry") + gap() + numeral(0, 6);
            }
            StringBuilder item = new StringBuilder(Model.NAMES[random.nextInt(6)]).append(gap()).append(numeral(0, 3));
            item.append(gap());
            if (random.nextInt(2) == 0) {
                item.append("long").append(gap()).append(numeral(1, 20)).append(gap());
            }
            if (random.nextInt(2) == 0) {
                item.append("pile").append(gap()).append(numeral(0, 99)).append(gap());
            }
            if (random.nextInt(2) == 0) {
                item.append("from").append(gap()).append(numeral(0, 39)).append(gap());
            }
            return item.toString();
        }

        private void spoil(StringBuilder text) {
            int at = random.nextInt(text.length());
            switch (random.nextInt(5)) {
                case 0: text.setLength(at); break;
                case 1: text.deleteCharAt(at); break;
                case 2: text.setCharAt(at, (char) random.nextInt(256)); break;
                case 3: text.insert(at, new String[] {";", "x", " up ", "long 3", "\t", "A", "mat", "from 3", "pile 7", "9"}[random.nextInt(10)]); break;
                default: text.append(new String[] {";", " ", " ;", " ; ", "-", "7"}[random.nextInt(6)]); break;
            }
        }

        private long onObject(Call call, long[] a) {
            CarpetRealms x = object;
            int p = a.length > 0 ? (int) a[0] : 0;
            int q = a.length > 1 ? (int) a[1] : 0;
            int r = a.length > 2 ? (int) a[2] : 0;
            switch (call) {
                case rain: return x.rain(p, q);
                case yard: return x.yard(p, q);
                case owns: return x.owns(p);
                case borders: return x.borders();
                case walk: return x.walk(p);
                case now: return x.now(p);
                case carpet: return x.carpet(p, q);
                case of: return x.of(p, q);
                case set: return x.set(p, q, r);
                case turn: return x.turn(p, q);
                case as: return x.as(p, q);
                case roll: return x.roll(p, q);
                case up: return x.up(p);
                case beat: return x.beat(p);
                case days: return x.days(p);
                case on: return x.on(p, q, r);
                case ownsOn: return x.ownsOn(p, q);
                case ends: return x.ends(p);
                case bare: return x.bare(p);
                case changes: return x.changes(p);
                case best: return x.best(p, q);
                case take: return x.take(p, q);
                case kind: return x.kind(p);
                case enough: return x.enough(p, q);
                case weather: return x.weather(p);
                case fewest: return x.fewest(p, q);
                case feed: return x.feed(p, q);
                case wipe: return x.wipe();
                case palace: return x.palace();
                case sheet: return x.sheet(p, q, r);
                case write: return x.write(p, q, a[2]);
                case copy: return x.copy(p, q, r, (int) a[3], (int) a[4]);
                case lays: return x.lays(p);
                case book: return x.book(p, q);
                case read: return x.read(p, q);
                case image: return x.image();
                case undo: return x.undo();
                case tear: return x.tear();
                case count: return x.count(p);
                default: return x.status(p);
            }
        }

        private long onModel(Call call, long[] a) {
            long answer;
            try {
                answer = model.answer(call, a);
            } catch (Finding f) {
                model.tallies[f.number - 1]++;
                return -1000000000L - f.number;
            }
            return answer;
        }
    }

    static final class Finding extends RuntimeException {
        private static final long serialVersionUID = 1L;
        static final int BEYOND = 1, FULL = 2, KIND = 3, NONE = 4, STATE = 5, MISSING = 6, SIZE = 7;
        final int number;

        Finding(int number) {
            super(null, null, false, false);
            this.number = number;
        }
    }

    static final class MRug {
        int kind, realm, length = 8, pile = 50, moths = 0, from = -1, roll = 0;

        MRug copied() {
            MRug r = new MRug();
            r.kind = kind; r.realm = realm; r.length = length; r.pile = pile; r.moths = moths; r.from = from; r.roll = roll;
            return r;
        }
    }

    static final class MWorld {
        int day = 0, rolls = 0;
        int[] rain = {0, 0, 0, 1, 0, 0, 0};
        List<MRug> rugs = new ArrayList<>();

        MWorld copied() {
            MWorld w = new MWorld();
            w.day = day; w.rolls = rolls; w.rain = rain.clone();
            for (MRug r : rugs) {
                w.rugs.add(r.copied());
            }
            return w;
        }
    }

    static final class Model {
        static final String[] NAMES = {"carpet", "runner", "velvet", "mat", "stair", "shag"};
        static final int[] ABOVE = {-1, 0, 0, 0, 1, 2};
        static final Pattern TOKEN = Pattern.compile("\\G *(?:([a-z]+)|([0-9]+)|(;)|([^ ])|$)", Pattern.DOTALL);

        MWorld w = new MWorld();
        MWorld kept = null;
        StringBuilder tape = new StringBuilder();
        int[] sheetBits = new int[4];
        long[][] sheets = new long[4][];
        int[] tallies = new int[7];

        // the document's table of kinds, row by row

        int reaches(MRug r) {
            return reachesAs(r.kind, r);
        }

        int reachesAs(int kind, MRug r) {
            if (kind == 0) return r.length;
            if (kind == 1) return r.length * 2;
            if (kind == 2) return reachesAs(0, r);
            if (kind == 3) return 2;
            if (kind == 4) return reachesAs(1, r) - 3 < 1 ? 1 : reachesAs(1, r) - 3;
            int whole = reachesAs(2, r);
            if (r.pile >= 20) return whole;
            return whole / 2 < 1 ? 1 : whole / 2;
        }

        int wears(int kind, int moths, boolean wet) {
            if (kind == 0) return wet ? 3 : 1;
            if (kind == 1) return wet ? 4 : 2;
            if (kind == 2) return wet ? 1 : 0;
            if (kind == 3) return 0;
            if (kind == 4) return (wet ? 4 : 2) + moths;
            return wet ? 2 : 0;
        }

        int breeds(int kind, boolean wet) {
            int[] dry = {1, 1, 2, 0, 1, 2};
            return kind == 5 && wet ? 0 : dry[kind];
        }

        int beaten(int kind, int moths) {
            int[] gets = {10, 10 - moths, 6, 0, 10 - moths, 12};
            return gets[kind];
        }

        // the street and the days

        boolean lies(MRug r, int yard) {
            if (r.from < 0) return false;
            for (int i = 0; i < reaches(r); i++) {
                if (r.from + i == yard) return true;
            }
            return false;
        }

        int top(MWorld v, int yard) {
            int top = -1;
            for (int c = 0; c < v.rugs.size(); c++) {
                if (lies(v.rugs.get(c), yard) && (top == -1 || v.rugs.get(c).roll >= v.rugs.get(top).roll)) top = c;
            }
            return top;
        }

        int owner(MWorld v, int yard) {
            int top = top(v, yard);
            return top == -1 ? -1 : v.rugs.get(top).realm;
        }

        int has(MWorld v, int realm) {
            int has = 0;
            for (int y = 0; y < 40; y++) {
                if (owner(v, y) == realm) has++;
            }
            return has;
        }

        int setOut(MWorld v) {
            int set = 0;
            for (int c = 0; c < v.rugs.size(); c++) {
                if (v.rugs.get(c).from != -1) set += 1 << c;
            }
            return set;
        }

        int piles(MWorld v) {
            int sum = 0;
            for (MRug r : v.rugs) sum += r.pile;
            return sum;
        }

        void rollOut(MWorld v, int c, int yard) {
            v.rolls = Math.min(99999, v.rolls + 1);
            v.rugs.get(c).roll = v.rolls;
            v.rugs.get(c).from = yard;
        }

        void day(MWorld v) {
            boolean wet = v.rain[v.day % 7] == 1;
            for (MRug r : v.rugs) {
                boolean wasUp = r.from == -1;
                if (!wasUp) {
                    r.pile -= wears(r.kind, r.moths, wet);
                    if (r.pile < 0) r.pile = 0;
                    if (r.pile == 0) r.from = -1;
                }
                if (wasUp) {
                    r.moths += breeds(r.kind, wet);
                    if (r.moths > 9) r.moths = 9;
                    r.pile -= r.moths / 3;
                    if (r.pile < 0) r.pile = 0;
                }
            }
            v.day++;
        }

        MWorld ahead(MWorld v, int n) {
            MWorld u = v.copied();
            for (int i = 0; i < n; i++) day(u);
            return u;
        }

        /** In how many days (0 to 400) a carpet is rolled up first, or 401. */
        int lasts(MWorld v, int c) {
            MWorld u = v.copied();
            for (int d = 0; d <= 400; d++) {
                if (u.rugs.get(c).from == -1) return d;
                day(u);
            }
            return 401;
        }

        // the calls

        static void need(boolean fine) {
            need(fine, Finding.BEYOND);
        }

        static void need(boolean fine, int finding) {
            if (!fine) throw new Finding(finding);
        }

        static boolean in(long v, long least, long most) {
            return v >= least && v <= most;
        }

        MRug rug(long c) {
            need(in(c, 0, w.rugs.size() - 1));
            return w.rugs.get((int) c);
        }

        long answer(Call call, long[] a) {
            switch (call) {
                case rain: case yard: case owns: case borders: case walk: case now: return street(call, a);
                case carpet: case of: case set: case turn: case as: case roll: case up: case beat: return carpets(call, a);
                case days: case on: case ownsOn: case ends: case bare: case changes: return daysOn(call, a);
                case best: case take: case kind: case enough: case weather: case fewest: return whatIsBest(call, a);
                case feed: case wipe: case palace: return text(call, a);
                case sheet: case write: case copy: case lays: case book: case read: return onSheets(call, a);
                default: return images(call, a);
            }
        }

        long street(Call call, long[] a) {
            switch (call) {
                case rain: {
                    need(in(a[0], 0, 6) && in(a[1], 0, 1));
                    int was = w.rain[(int) a[0]];
                    w.rain[(int) a[0]] = (int) a[1];
                    return was;
                }
                case yard: {
                    need(in(a[0], 0, 39) && in(a[1], 0, 2));
                    int y = (int) a[0];
                    if (a[1] == 0) return owner(w, y);
                    if (a[1] == 1) return top(w, y);
                    int set = 0;
                    for (int c = 0; c < w.rugs.size(); c++) if (lies(w.rugs.get(c), y)) set |= 1 << c;
                    return set;
                }
                case owns:
                    need(in(a[0], -1, 3));
                    return has(w, (int) a[0]);
                case borders: {
                    int n = 0;
                    for (int y = 0; y <= 38; y++) if (owner(w, y) != owner(w, y + 1)) n++;
                    return n;
                }
                case walk: {
                    need(in(a[0], 0, 39));
                    int y = (int) a[0];
                    int n = 1;
                    for (int z = y + 1; z <= 39; z++) { if (owner(w, z) != owner(w, y)) break; n++; }
                    for (int z = y - 1; z >= 0; z--) { if (owner(w, z) != owner(w, y)) break; n++; }
                    return n;
                }
                default:
                    need(in(a[0], 0, 4));
                    return new int[] {w.day, w.rain[w.day % 7], w.rolls, setOut(w), piles(w)}[(int) a[0]];
            }
        }

        long carpets(Call call, long[] a) {
            switch (call) {
                case carpet: {
                    need(in(a[0], 0, 5));
                    need(in(a[1], 0, 3));
                    need(w.rugs.size() < 8, Finding.FULL);
                    MRug r = new MRug();
                    r.kind = (int) a[0];
                    r.realm = (int) a[1];
                    w.rugs.add(r);
                    return w.rugs.size() - 1;
                }
                case of: {
                    MRug r = rug(a[0]);
                    need(in(a[1], 0, 9));
                    boolean wet = w.rain[w.day % 7] == 1;
                    return new int[] {r.kind, r.realm, r.length, r.pile, r.moths, r.from, reaches(r), wears(r.kind, r.moths, wet),
                        breeds(r.kind, wet), beaten(r.kind, r.moths)}[(int) a[1]];
                }
                case set: {
                    MRug r = rug(a[0]);
                    need(in(a[1], 1, 4));
                    int[] least = {0, 0, 1, 0, 0};
                    int[] most = {0, 3, 20, 99, 9};
                    need(in(a[2], least[(int) a[1]], most[(int) a[1]]));
                    int v = (int) a[2];
                    int was;
                    if (a[1] == 1) { was = r.realm; r.realm = v; }
                    else if (a[1] == 2) { was = r.length; r.length = v; }
                    else if (a[1] == 3) { was = r.pile; r.pile = v; }
                    else { was = r.moths; r.moths = v; }
                    return was;
                }
                case turn: {
                    MRug r = rug(a[0]);
                    need(in(a[1], 0, 5));
                    int was = r.kind;
                    r.kind = (int) a[1];
                    return was;
                }
                case as: {
                    MRug r = rug(a[0]);
                    need(in(a[1], 0, 5));
                    need(r.kind == a[1] || ABOVE[r.kind] == a[1] || (ABOVE[r.kind] != -1 && ABOVE[ABOVE[r.kind]] == a[1]), Finding.KIND);
                    return r.pile;
                }
                case roll: {
                    MRug r = rug(a[0]);
                    need(in(a[1], 0, 39));
                    need(r.pile != 0, Finding.STATE);
                    rollOut(w, (int) a[0], (int) a[1]);
                    int n = 0;
                    for (int y = 0; y < 40; y++) if (lies(r, y)) n++;
                    return n;
                }
                case up: {
                    MRug r = rug(a[0]);
                    need(r.from != -1, Finding.STATE);
                    int was = r.from;
                    r.from = -1;
                    return was;
                }
                default: {
                    MRug r = rug(a[0]);
                    int pile = r.pile + beaten(r.kind, r.moths);
                    r.pile = pile > 99 ? 99 : pile < 0 ? 0 : pile;
                    r.moths = 0;
                    return r.pile;
                }
            }
        }

        long daysOn(Call call, long[] a) {
            switch (call) {
                case days:
                    need(in(a[0], 1, 60));
                    need(w.day + a[0] <= 9999, Finding.STATE);
                    w = ahead(w, (int) a[0]);
                    return setOut(w);
                case on: {
                    rug(a[0]);
                    need(in(a[1], 0, 200) && in(a[2], 0, 2));
                    MRug r = ahead(w, (int) a[1]).rugs.get((int) a[0]);
                    return a[2] == 0 ? r.pile : a[2] == 1 ? r.moths : r.from;
                }
                case ownsOn:
                    need(in(a[0], -1, 3) && in(a[1], 0, 200));
                    return has(ahead(w, (int) a[1]), (int) a[0]);
                case ends: {
                    rug(a[0]);
                    int d = lasts(w, (int) a[0]);
                    need(d <= 400, Finding.NONE);
                    return d;
                }
                case bare: {
                    rug(a[0]);
                    MWorld u = w.copied();
                    for (int d = 0; d <= 400; d++) {
                        if (u.rugs.get((int) a[0]).pile == 0) return d;
                        day(u);
                    }
                    throw new Finding(Finding.NONE);
                }
                default: {
                    need(in(a[0], 0, 39));
                    MWorld u = w.copied();
                    for (int d = 0; d <= 400; d++) {
                        if (owner(u, (int) a[0]) != owner(w, (int) a[0])) return d;
                        day(u);
                    }
                    throw new Finding(Finding.NONE);
                }
            }
        }

        long whatIsBest(Call call, long[] a) {
            int best = -1;
            int most = -1;
            switch (call) {
                case best: {
                    MRug r = rug(a[0]);
                    need(in(a[1], 0, 60));
                    need(r.pile != 0, Finding.STATE);
                    for (int y = 0; y < 40; y++) {
                        MWorld u = w.copied();
                        rollOut(u, (int) a[0], y);
                        int has = has(ahead(u, (int) a[1]), r.realm);
                        if (has > most) { most = has; best = y; }
                    }
                    return best;
                }
                case take: {
                    need(in(a[0], 0, 3) && in(a[1], 0, 60));
                    for (int c = 0; c < w.rugs.size(); c++) {
                        if (w.rugs.get(c).from == -1) continue;
                        MWorld u = w.copied();
                        u.rugs.get(c).from = -1;
                        int has = has(ahead(u, (int) a[1]), (int) a[0]);
                        if (has > most) { most = has; best = c; }
                    }
                    need(best != -1, Finding.NONE);
                    return best;
                }
                case kind: {
                    rug(a[0]);
                    for (int k = 0; k < 6; k++) {
                        MWorld u = w.copied();
                        u.rugs.get((int) a[0]).kind = k;
                        int d = lasts(u, (int) a[0]);
                        if (d > most) { most = d; best = k; }
                    }
                    return best;
                }
                case enough: {
                    rug(a[0]);
                    need(in(a[1], 1, 60));
                    for (int pile = 0; pile <= 99; pile++) {
                        MWorld u = w.copied();
                        u.rugs.get((int) a[0]).pile = pile;
                        if (ahead(u, (int) a[1]).rugs.get((int) a[0]).from != -1) return pile;
                    }
                    throw new Finding(Finding.NONE);
                }
                case weather: {
                    need(in(a[0], 1, 60));
                    for (int p = 0; p < 7; p++) {
                        MWorld u = w.copied();
                        u.rain[p] = u.rain[p] == 0 ? 1 : 0;
                        int sum = piles(ahead(u, (int) a[0]));
                        if (sum > most) { most = sum; best = p; }
                    }
                    return best;
                }
                default: {
                    need(in(a[0], 0, 3) && in(a[1], 0, 40));
                    for (int size = 0; size <= 8; size++) {
                        for (int set = 0; set < 256; set++) {
                            if (Integer.bitCount(set) != size || (set | setOut(w)) != setOut(w)) continue;
                            MWorld u = w.copied();
                            for (int c = 0; c < 8; c++) if ((set >> c & 1) == 1) u.rugs.get(c).from = -1;
                            if (has(u, (int) a[0]) >= a[1]) return set;
                        }
                    }
                    throw new Finding(Finding.NONE);
                }
            }
        }

        long text(Call call, long[] a) {
            if (call == Call.feed) {
                need(in(a[1], 1, 4));
                need(tape.length() + a[1] <= 120, Finding.FULL);
                int[] parts = {(int) a[0] >>> 24, (int) a[0] >>> 16 & 255, (int) a[0] >>> 8 & 255, (int) a[0] & 255};
                for (int i = 4 - (int) a[1]; i < 4; i++) tape.append((char) parts[i]);
                return tape.length();
            }
            int had = tape.length();
            if (call == Call.wipe) {
                tape.setLength(0);
                return had;
            }
            MWorld u = w.copied();
            long answer = new Text(tape.toString(), u).read();
            tape.setLength(0);
            if (answer > 0) w = u;
            return answer;
        }

        /** Tokens in lists first, then items over them. */
        final class Text {
            final List<String> words = new ArrayList<>();
            final List<Integer> places = new ArrayList<>();
            final MWorld u;
            int at = 0;

            Text(String text, MWorld u) {
                this.u = u;
                Matcher m = TOKEN.matcher(text);
                while (m.find()) {
                    for (int g = 1; g <= 4; g++) {
                        if (m.group(g) != null) {
                            words.add(g == 4 ? "?" : m.group(g));
                            places.add(m.start(g));
                        }
                    }
                    if (m.end() == text.length()) break;
                }
                words.add("");
                places.add(text.length());
            }

            int read() {
                int items = 0;
                do {
                    if (items > 0) at++;
                    if (!item()) return -1 - places.get(at);
                    items++;
                } while (words.get(at).equals(";"));
                return words.get(at).isEmpty() ? items : -1 - places.get(at);
            }

            /** The number that stands here, if it is from least to most, else -1. */
            int number(int least, int most) {
                String t = words.get(at);
                if (!t.matches("[0-9]+")) return -1;
                java.math.BigInteger v = new java.math.BigInteger(t);
                if (v.compareTo(java.math.BigInteger.valueOf(most)) > 0 || v.compareTo(java.math.BigInteger.valueOf(least)) < 0) return -1;
                at++;
                return v.intValue();
            }

            boolean item() {
                String t = words.get(at);
                if (t.equals("rain") || t.equals("dry")) {
                    at++;
                    int p = number(0, 6);
                    if (p >= 0) u.rain[p] = t.equals("rain") ? 1 : 0;
                    return p >= 0;
                }
                if (t.equals("up")) {
                    at++;
                    int c = number(0, u.rugs.size() - 1);
                    if (c < 0) return false;
                    if (u.rugs.get(c).from == -1) { at--; return false; }
                    u.rugs.get(c).from = -1;
                    return true;
                }
                for (int k = 0; k < 6; k++) {
                    if (t.equals(NAMES[k])) return carpet(k);
                }
                return false;
            }

            boolean carpet(int k) {
                if (u.rugs.size() == 8) return false;
                at++;
                MRug r = new MRug();
                r.kind = k;
                r.realm = number(0, 3);
                if (r.realm < 0) return false;
                u.rugs.add(r);
                if (words.get(at).equals("long")) {
                    at++;
                    r.length = number(1, 20);
                    if (r.length < 0) return false;
                }
                if (words.get(at).equals("pile")) {
                    at++;
                    r.pile = number(0, 99);
                    if (r.pile < 0) return false;
                }
                if (words.get(at).equals("from")) {
                    at++;
                    int from = number(0, 39);
                    if (from < 0) return false;
                    rollOut(u, u.rugs.size() - 1, from);
                }
                return true;
            }
        }

        static long cut(long v, int bits) {
            return bits == 64 ? v : v << 64 - bits >> 64 - bits;
        }

        long onSheets(Call call, long[] a) {
            int s = (int) a[0];
            need(in(a[0], 0, 3));
            if (call == Call.sheet) {
                need(a[1] == 0 || a[1] == 8 || a[1] == 16 || a[1] == 64);
                need(a[2] >= 0, Finding.SIZE);
                need(a[2] <= 40);
                sheetBits[s] = (int) a[1];
                sheets[s] = a[1] == 0 ? null : new long[(int) a[2]];
                return a[1] == 0 ? 0 : a[2];
            }
            if (call == Call.copy) {
                need(in(a[2], 0, 3));
                int t = (int) a[2];
                need(sheets[s] != null && sheets[t] != null, Finding.MISSING);
                need(sheetBits[s] == sheetBits[t], Finding.KIND);
                need(a[1] >= 0 && a[3] >= 0 && a[4] >= 0);
                need(a[1] + a[4] <= sheets[s].length && a[3] + a[4] <= sheets[t].length);
                long[] were = sheets[s].clone();
                for (int i = 0; i < a[4]; i++) sheets[t][(int) a[3] + i] = were[(int) a[1] + i];
                return a[4];
            }
            need(sheets[s] != null, Finding.MISSING);
            if (call == Call.write) {
                need(in(a[1], 0, sheets[s].length - 1));
                long was = sheets[s][(int) a[1]];
                sheets[s][(int) a[1]] = cut(a[2], sheetBits[s]);
                return was;
            }
            if (call == Call.lays) {
                int came = 0;
                for (int c = 0; c < sheets[s].length; c++) {
                    if (c < w.rugs.size() && in(sheets[s][c], 0, 99)) { w.rugs.get(c).pile = (int) sheets[s][c]; came++; }
                }
                return came;
            }
            rug(a[1]);
            if (call == Call.book) {
                for (int d = 0; d < sheets[s].length; d++) sheets[s][d] = ahead(w, d).rugs.get((int) a[1]).pile;
                return sheets[s].length;
            }
            int pairs = 0;
            for (int k = 0; k < 6; k++) {
                for (int m = 0; m <= 9; m++) {
                    MWorld u = w.copied();
                    u.rugs.get((int) a[1]).kind = k;
                    u.rugs.get((int) a[1]).moths = m;
                    boolean same = true;
                    for (int d = 0; d < sheets[s].length && same; d++) {
                        same = sheets[s][d] == u.rugs.get((int) a[1]).pile;
                        day(u);
                    }
                    if (same) pairs++;
                }
            }
            return pairs;
        }

        long images(Call call, long[] a) {
            switch (call) {
                case image:
                    kept = w.copied();
                    return 1;
                case undo:
                    need(kept != null, Finding.NONE);
                    w = kept.copied();
                    return w.rugs.size();
                case tear: {
                    int was = kept == null ? 0 : 1;
                    kept = null;
                    return was;
                }
                case count: {
                    need(in(a[0], 0, 3));
                    int moths = 0;
                    for (MRug r : w.rugs) moths += r.moths;
                    return new int[] {w.rugs.size(), tape.length(), Integer.bitCount(setOut(w)), moths}[(int) a[0]];
                }
                default: {
                    need(in(a[0], -1, 6));
                    if (a[0] >= 0) return tallies[(int) a[0]];
                    int all = 0;
                    for (int t : tallies) all += t;
                    return all;
                }
            }
        }
    }
}
