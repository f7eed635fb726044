import java.io.IOException;
import java.nio.file.Files;
import java.nio.file.Path;
import java.util.ArrayList;
import java.util.List;
import java.util.function.Supplier;

/**
 * Each sentence of the document that names a boundary case, with a test of its own: the last value that may be and the
 * first that may not, what is empty and what is full, what is held at a bound or goes round, and each refused call.
 *
 * A refused call is made on one of two objects that were made alike. Both are asked everything then, and they may
 * differ in status() alone, by one finding: the one that the document asks first.
 */
public final class EdgesTest {
    private static final int BEYOND = -1000000001;
    private static final int FULL = -1000000002;
    private static final int KIND = -1000000003;
    private static final int NONE = -1000000004;
    private static final int STATE = -1000000005;
    private static final int MISSING = -1000000006;
    private static final int SIZE = -1000000007;
    private static final int NO_FINDING = 0;
    private static final int PROMISES = 41;
    private static final int LEAST = Integer.MIN_VALUE;
    private static final int MOST = Integer.MAX_VALUE;
    private static final String[] NAMES = {"carpet", "runner", "velvet", "mat", "stair", "shag"};

    private static final int[] sentences = new int[PROMISES + 1];
    private static String sentence = "";
    private static int asked = 0;
    private static int wrong = 0;
    /** The document's parts, 0 its terms, 1 to 41 the promises; without them the quoted words aren't looked for. */
    private static String[] document = null;
    private static Supplier<CarpetRealms> setup = CarpetRealms::new;
    private static CarpetRealms x = null;

    private EdgesTest() {
    }

    /** One call on an object. */
    interface Act {
        long on(CarpetRealms x);
    }

    /** One call on an object, with a number whose bounds are looked for. */
    interface Bound {
        long on(CarpetRealms x, int v);
    }

    public static void main(String[] args) throws IOException {
        readDocument();
        terms();
        theStreet();
        carpets();
        days();
        whatIsBest();
        theText();
        sheets();
        images();
        for (int p = 0; p <= PROMISES; p++) {
            due("sentences of promise " + p + " that have a test", sentences[p] > 0 ? 1 : 0, 1);
        }
        System.out.println(wrong == 0 ? asked + " answers at the edges are as due" : wrong + " answers are not as due");
        if (wrong != 0) {
            System.exit(1);
        }
    }

    // ---- how it is asked

    private static void readDocument() throws IOException {
        Path place = Path.of(System.getProperty("carpets.document", "../shared/DOC.md"));
        if (!Files.isReadable(place)) {
            System.out.println("the document isn't at " + place + ": its words aren't looked for");
            return;
        }
        String text = Files.readString(place);
        document = new String[PROMISES + 1];
        document[0] = text.substring(0, Math.max(0, text.indexOf("## Promise 1:")));
        for (int p = 1; p <= PROMISES; p++) {
            int begin = text.indexOf("## Promise " + p + ":");
            int end = text.indexOf("\n## ", begin + 1);
            document[p] = begin < 0 ? "" : text.substring(begin, end < 0 ? text.length() : end);
        }
    }

    /** The sentence whose test follows, on a new object of the setup. */
    private static void says(int promise, String words) {
        sentence = (promise == 0 ? "terms" : "promise " + promise) + " '" + words + "'";
        sentences[promise]++;
        if (document != null) {
            due("the document's own words", document[promise].contains(words) ? 1 : 0, 1);
        }
        x = setup.get();
    }

    private static void with(Supplier<CarpetRealms> maker) {
        setup = maker;
        x = setup.get();
    }

    private static void due(String call, long got, long want) {
        asked++;
        if (got != want) {
            wrong++;
            System.out.println(sentence + ": " + call + " answered " + got + ", due is " + want);
        }
    }

    /** A refused call: the finding that is asked first, and nothing changes but status(). */
    private static void refused(String call, int finding, Act act) {
        CarpetRealms one = setup.get();
        due(call, act.on(one), finding);
        dueAlike(call, one, setup.get(), finding);
    }

    /** A call that only asks: no finding, and nothing changes at all. */
    private static void asks(String call, Act act) {
        CarpetRealms one = setup.get();
        due(call + " is no finding", act.on(one) > -1000000000 ? 1 : 0, 1);
        dueAlike(call, one, setup.get(), NO_FINDING);
    }

    /** From least to most it isn't BEYOND, one less and one more are, and so are the ends of int. */
    private static void bounds(String call, int least, int most, Bound bound) {
        for (int v = least; v <= most; v++) {
            due(call + " of " + v + " is BEYOND", bound.on(setup.get(), v) == BEYOND ? 1 : 0, 0);
        }
        for (int v : new int[] {least - 1, most + 1, LEAST, MOST}) {
            refused(call + " of " + v, BEYOND, y -> bound.on(y, v));
        }
    }

    private static void dueAlike(String call, CarpetRealms one, CarpetRealms twin, int finding) {
        List<Long> got = everything(one);
        List<Long> want = everything(twin);
        boolean alike = got.size() == want.size();
        for (int i = 0; alike && i < got.size(); i++) {
            boolean counted = finding != NO_FINDING && (i == 0 || i == 1 + BEYOND - finding);
            alike = got.get(i) == want.get(i) + (counted ? 1 : 0);
        }
        due(call + " leaves all else as it was", alike ? 1 : 0, 1);
    }

    /** All that can be asked: it spoils the object. How often each finding was comes first. */
    private static List<Long> everything(CarpetRealms y) {
        List<Long> seen = new ArrayList<>();
        for (int which = -1; which < 7; which++) {
            seen.add((long) y.status(which));
        }
        seeSheets(y, seen);
        seeWorld(y, seen);
        seen.add((long) y.count(1));
        seen.add((long) y.palace());
        seen.add((long) y.now(2));
        for (int place = 0; place < 7; place++) {
            seen.add((long) y.rain(place, 0));
        }
        seen.add((long) y.undo());
        seeWorld(y, seen);
        seen.add((long) y.tear());
        return seen;
    }

    private static void seeSheets(CarpetRealms y, List<Long> seen) {
        for (int s = 0; s < 4; s++) {
            long was = 0;
            for (int i = 0; i <= 40 && was != BEYOND && was != MISSING; i++) {
                was = y.write(s, i, 0x123456789abcL);
                seen.add(was);
            }
            seen.add(y.write(s, 0, 0L));
            seen.add((long) y.copy(s, 0, 0, 0, 0));
            seen.add((long) y.copy(s, 0, 1, 0, 0));
        }
    }

    private static void seeWorld(CarpetRealms y, List<Long> seen) {
        int rugs = y.count(0);
        seen.add((long) rugs);
        for (int what = 0; what < 5; what++) {
            seen.add((long) y.now(what));
        }
        for (int c = 0; c < rugs; c++) {
            for (int what = 0; what < 6; what++) {
                seen.add((long) y.of(c, what));
            }
        }
        for (int place = 0; place < 7; place++) {
            int wet = y.rain(place, 0);
            y.rain(place, wet);
            seen.add((long) wet);
        }
        for (int yard = 0; yard < 40; yard++) {
            seen.add((long) y.yard(yard, 1));
        }
        // The setups' carpets lie over yard 20: taken up one by one they tell which lies over which.
        for (int top = y.yard(20, 1); top >= 0 && y.up(top) >= 0; top = y.yard(20, 1)) {
            seen.add((long) top);
        }
    }

    private static void feed(CarpetRealms y, String text) {
        for (int i = 0; i < text.length(); i += 4) {
            int n = Math.min(4, text.length() - i);
            int bytes = 0;
            for (int k = 0; k < n; k++) {
                bytes = bytes << 8 | text.charAt(i + k);
            }
            y.feed(bytes, n);
        }
    }

    private static void dueText(String text, int want) {
        x.wipe();
        feed(x, text);
        due("palace() of '" + text + "'", x.palace(), want);
        due("count(1) then", x.count(1), 0);
    }

    // ---- what there is at first

    /** Sheets of all bits, of 40, 3 and 0 numbers, and a missing one; a text; an image that isn't as it is now. */
    private static void furnish(CarpetRealms y) {
        y.image();
        y.sheet(0, 8, 40);
        y.sheet(1, 16, 3);
        y.sheet(2, 64, 0);
        for (int i = 0; i < 40; i += 13) {
            y.write(0, i, 90 + i);
        }
        y.write(1, 0, 300L);
        y.write(1, 2, -300L);
        y.rain(5, 1);
        y.days(1);
        feed(y, "dry 5; rain 6");
    }

    /** Three carpets: a RUNNER of 1 and over it a SHAG of 2, and a STAIR of 0 that is rolled up. */
    private static CarpetRealms three() {
        CarpetRealms y = new CarpetRealms();
        y.carpet(1, 1);
        y.carpet(5, 2);
        y.carpet(4, 0);
        y.roll(0, 10);
        y.roll(1, 16);
        furnish(y);
        y.set(0, 2, 9);
        y.set(2, 4, 5);
        return y;
    }

    /** Eight carpets, all of which but the last three lie over yard 20; the last has no PILE. */
    private static CarpetRealms eight() {
        CarpetRealms y = new CarpetRealms();
        for (int c = 0; c < 8; c++) {
            y.carpet(c % 6, c % 4);
        }
        y.roll(1, 5);
        y.roll(4, 20);
        y.roll(3, 20);
        furnish(y);
        y.roll(0, 13);
        y.roll(1, 6);
        y.roll(2, 18);
        y.set(6, 4, 9);
        y.set(7, 3, 0);
        return y;
    }

    /** As the first, on a DAY near the last one. */
    private static CarpetRealms late(int day) {
        CarpetRealms y = new CarpetRealms();
        for (int left = day; left > 0; left -= 60) {
            y.days(Math.min(60, left));
        }
        y.carpet(1, 1);
        y.carpet(5, 2);
        y.roll(0, 10);
        y.roll(1, 16);
        y.image();
        y.roll(0, 11);
        feed(y, "dry 5");
        return y;
    }

    /** A TAPE of so many bytes: blanks, and a text behind them. */
    private static CarpetRealms taped(int bytes) {
        CarpetRealms y = new CarpetRealms();
        y.carpet(0, 0);
        for (int left = bytes - 6; left > 0; left -= 4) {
            y.feed(0x20202020, Math.min(4, left));
        }
        feed(y, "rain 6");
        return y;
    }

    private static CarpetRealms one(int kind, int longs, int pile, int moths) {
        CarpetRealms y = new CarpetRealms();
        y.carpet(kind, 1);
        y.set(0, 2, longs);
        y.set(0, 3, pile);
        y.set(0, 4, moths);
        return y;
    }

    // ---- the terms

    private static void terms() {
        with(CarpetRealms::new);
        theFindings();
        inTheirOrder();
        dayAndRain();
        rolls();
        whatACarpetIs();
        reaches();
        wearsBreedsBeaten();
        over();
        aDayLies();
        aDayIsRolledUp();
        onChangesNothing();
        sheetsAtFirst();
        lastCall();
    }

    private static void theFindings() {
        says(0, "-1000000001 BEYOND, -1000000002 FULL, -1000000003 KIND, -1000000004 NONE, -1000000005 STATE, "
            + "-1000000006 MISSING, -1000000007 SIZE (in longs, too)");
        for (int c = 0; c < 8; c++) {
            x.carpet(0, 0);
        }
        due("BEYOND", x.now(5), -1000000001);
        due("FULL", x.carpet(0, 0), -1000000002);
        due("KIND", x.as(0, 1), -1000000003);
        due("NONE", x.undo(), -1000000004);
        due("STATE", x.up(0), -1000000005);
        due("MISSING", x.lays(0), -1000000006);
        due("SIZE", x.sheet(0, 8, -1), -1000000007);
        due("BEYOND in a long", x.write(4, 0, 0L), -1000000001L);
        due("MISSING in a long", x.write(0, 0, 0L), -1000000006L);
        says(0, "Quotients are cut.");
        due("half of what a CARPET wears dry", one(2, 8, 50, 0).of(0, 7), 0);
        x = one(2, 8, 50, 0);
        x.rain(0, 1);
        due("half of what a CARPET wears in rain", x.of(0, 7), 1);
        due("half of LONG 5", one(5, 5, 19, 0).of(0, 6), 2);
        int[] thirds = {0, 0, 0, 1, 1, 1, 2, 2, 2, 3};
        for (int moths = 0; moths < 10; moths++) {
            due("a third of " + moths + " MOTHS", 50 - one(3, 8, 50, moths).on(0, 1, 0), thirds[moths]);
        }
        says(0, "Sets are told by bits.");
        x = eight();
        due("carpets 0 to 4", x.now(3), 31);
        due("carpets 0 to 4", x.yard(20, 2), 31);
        due("carpets 0 to 4", x.days(1), 31);
        // Of REALM 0 there are 0 on 13 to 20 and 4 on 20 to 32; over them 3 on 20, 21, 1 on 6 to 21, 2 on 18 to 25.
        x = eight();
        due("carpets 1 and 2", x.fewest(0, 13), 6);
        due("carpets 1, 2 and 3", x.fewest(0, 20), 14);
    }

    /** Calls of which two findings could be told: the one that is asked first is. */
    private static void inTheirOrder() {
        says(0, "Each act tells its findings in the order in which they are asked; one that answers a finding changes "
            + "nothing but status().");
        with(EdgesTest::eight);
        refused("BEYOND before FULL", BEYOND, y -> y.carpet(6, 4));
        refused("BEYOND before KIND", BEYOND, y -> y.as(8, 3));
        refused("BEYOND before STATE", BEYOND, y -> y.roll(7, 40));
        refused("BEYOND before STATE", BEYOND, y -> y.best(7, 61));
        refused("BEYOND before NONE", BEYOND, y -> y.enough(5, 61));
        refused("BEYOND before NONE", BEYOND, y -> y.fewest(4, 40));
        refused("BEYOND before SIZE", BEYOND, y -> y.sheet(4, 7, -1));
        refused("SIZE, where BEYOND would come behind it", SIZE, y -> y.sheet(3, 0, LEAST));
        refused("BEYOND before MISSING", BEYOND, y -> y.write(-1, 0, 0L));
        refused("MISSING before BEYOND", MISSING, y -> y.write(3, -1, 0L));
        refused("MISSING before BEYOND", MISSING, y -> y.book(3, 8));
        refused("MISSING before BEYOND", MISSING, y -> y.read(3, 8));
        refused("BEYOND before MISSING", BEYOND, y -> y.copy(3, 0, 4, 0, 0));
        refused("MISSING before KIND and BEYOND", MISSING, y -> y.copy(0, -1, 3, -1, -1));
        refused("KIND before BEYOND", KIND, y -> y.copy(0, -1, 1, -1, -1));
        with(() -> taped(120));
        refused("BEYOND before FULL", BEYOND, y -> y.feed(0, 5));
        refused("BEYOND before NONE", BEYOND, y -> y.take(0, 61));
        with(() -> late(9999));
        refused("BEYOND before STATE", BEYOND, y -> y.days(61));
        with(CarpetRealms::new);
        says(0, "THE STREET: YARDS 0 to 39.");
        with(EdgesTest::three);
        for (Bound ofYard : new Bound[] {(y, v) -> y.yard(v, 0), (y, v) -> y.walk(v), (y, v) -> y.roll(2, v),
            (y, v) -> y.changes(v)}) {
            bounds("a YARD", 0, 39, ofYard);
        }
        with(CarpetRealms::new);
    }

    private static void dayAndRain() {
        says(0, "DAY: 0 at first (9999 at most); of the week: its rest by 7.");
        due("now(0)", x.now(0), 0);
        for (int place = 0; place < 7; place++) {
            x = new CarpetRealms();
            x.rain(3, 0);
            x.rain(place, 1);
            for (int day = 0; day < 15; day++) {
                due("rain of place " + place + " on DAY " + day, x.now(1), day % 7 == place ? 1 : 0);
                x.days(1);
            }
        }
        x = late(9999);
        due("now(0)", x.now(0), 9999);
        // 9999 is 3 more than 1428 weeks.
        due("now(1) on the last DAY", x.now(1), 1);
        x.rain(3, 0);
        due("now(1) on the last DAY", x.now(1), 0);
        says(0, "RAIN: 7 numbers (0, 1; at first 1 at place 3, 0 else)");
        for (int place = 0; place < 7; place++) {
            due("rain(" + place + ", 1)", x.rain(place, 1), place == 3 ? 1 : 0);
            due("rain(" + place + ", 0)", x.rain(place, 0), 1);
        }
    }

    private static void rolls() {
        says(0, "ROLLS: how many carpets were rolled out so far (0 at first, held to 99999)");
        due("now(2)", x.now(2), 0);
        x.carpet(0, 0);
        due("now(2) of one that is rolled up", x.now(2), 0);
        // No run of 512 calls gets there: what is asked here is that nothing breaks if one could.
        for (int i = 0; i < 99998; i++) {
            x.roll(0, i % 40);
        }
        due("now(2)", x.now(2), 99998);
        x.roll(0, 0);
        due("now(2)", x.now(2), 99999);
        x.roll(0, 0);
        due("now(2) is held", x.now(2), 99999);
        due("owns(0)", x.owns(0), 8);
        says(0, "TO ROLL OUT a carpet FROM a YARD: ROLLS is 1 more, its ROLL is that (also if it was rolled out elsewhere "
            + "till then)");
        x.carpet(0, 0);
        x.carpet(0, 1);
        x.roll(0, 0);
        x.roll(1, 0);
        due("now(2)", x.now(2), 2);
        due("yard(3, 1)", x.yard(3, 1), 1);
        x.roll(0, 0);
        due("now(2)", x.now(2), 3);
        due("yard(3, 1) of one that lay there till then", x.yard(3, 1), 0);
        x.up(0);
        due("now(2)", x.now(2), 3);
        due("roll(0, 40)", x.roll(0, 40), BEYOND);
        due("now(2) after a refused one", x.now(2), 3);
    }

    private static void whatACarpetIs() {
        says(0, "CARPETS 0, 1, .. (at most 8)");
        for (int c = 0; c < 8; c++) {
            due("carpet(3, 3)", x.carpet(3, 3), c);
        }
        due("carpet(3, 3)", x.carpet(3, 3), FULL);
        due("count(0)", x.count(0), 8);
        says(0, "0 CARPET, 1 RUNNER under CARPET, 2 VELVET under CARPET, 3 MAT under CARPET, 4 STAIR under RUNNER, "
            + "5 SHAG under VELVET");
        int[] above = {-1, 0, 0, 0, 1, 2};
        for (int kind = 0; kind < 6; kind++) {
            for (int other = 0; other < 6; other++) {
                int k = kind;
                while (k >= 0 && k != other) {
                    k = above[k];
                }
                due("a " + NAMES[kind] + " as " + NAMES[other], one(kind, 8, 50, 0).as(0, other), k == other ? 50 : KIND);
            }
        }
        says(0, "each of a REALM (0 to 3), LONG (1 to 20; 8 at first), with a PILE (0 to 99; 50 at first), MOTHS (0 to 9; "
            + "0 at first)");
        for (int kind = 0; kind < 6; kind++) {
            x = new CarpetRealms();
            x.carpet(kind, 3);
            due("REALM", x.of(0, 1), 3);
            due("LONG at first", x.of(0, 2), 8);
            due("PILE at first", x.of(0, 3), 50);
            due("MOTHS at first", x.of(0, 4), 0);
        }
        says(0, "or rolled up (FROM -1; at first)");
        x.carpet(0, 0);
        due("of(0, 5)", x.of(0, 5), -1);
        x.roll(0, 0);
        due("of(0, 5) at the first YARD", x.of(0, 5), 0);
        x.up(0);
        due("of(0, 5)", x.of(0, 5), -1);
    }

    private static void dueReaches(int kind, int pile, int[] longs, int[] want) {
        for (int i = 0; i < longs.length; i++) {
            CarpetRealms y = one(kind, longs[i], pile, 9);
            due(NAMES[kind] + ", LONG " + longs[i] + ", PILE " + pile, y.of(0, 6), want[i]);
        }
    }

    private static void reaches() {
        int[] longs = {1, 2, 3, 4, 5, 19, 20};
        for (int pile : new int[] {0, 19, 20, 99}) {
            says(0, "CARPET: LONG.");
            dueReaches(0, pile, longs, longs);
            says(0, "RUNNER: twice LONG.");
            dueReaches(1, pile, longs, new int[] {2, 4, 6, 8, 10, 38, 40});
            says(0, "VELVET: as CARPET.");
            dueReaches(2, pile, longs, longs);
            says(0, "MAT: 2.");
            dueReaches(3, pile, longs, new int[] {2, 2, 2, 2, 2, 2, 2});
            says(0, "STAIR: as RUNNER, less 3 (1 at least).");
            dueReaches(4, pile, longs, new int[] {1, 1, 3, 5, 7, 35, 37});
        }
        says(0, "SHAG: as VELVET, but half of that (1 at least), if PILE is below 20.");
        for (int pile : new int[] {0, 1, 18, 19}) {
            dueReaches(5, pile, longs, new int[] {1, 1, 1, 2, 2, 9, 10});
        }
        for (int pile : new int[] {20, 21, 99}) {
            dueReaches(5, pile, longs, longs);
        }
        says(0, "(those above 39 don't count)");
        for (int from = 0; from < 40; from++) {
            x = one(0, 8, 50, 0);
            due("roll(0, " + from + ")", x.roll(0, from), from <= 32 ? 8 : 40 - from);
            due("owns(1)", x.owns(1), from <= 32 ? 8 : 40 - from);
            for (int yard = 0; yard < 40; yard++) {
                due("yard(" + yard + ", 2) from " + from, x.yard(yard, 2), yard >= from && yard < from + 8 ? 1 : 0);
            }
        }
        x = one(1, 20, 50, 0);
        due("roll(0, 0) over all the street", x.roll(0, 0), 40);
        due("roll(0, 1)", x.roll(0, 1), 39);
        due("roll(0, 39)", x.roll(0, 39), 1);
    }

    private static void dueOfKinds(int what, int moths, boolean wet, int... want) {
        for (int kind = 0; kind < 6; kind++) {
            CarpetRealms y = one(kind, 8, 50, moths);
            y.rain(0, wet ? 1 : 0);
            due(NAMES[kind] + " with " + moths + " MOTHS, of(0, " + what + ")", y.of(0, what), want[kind]);
        }
    }

    private static void wearsBreedsBeaten() {
        says(0, "WEARS (PILE in a day rolled out; RAIN or not): CARPET: 1, and 2 more in RAIN. RUNNER: as CARPET, and 1. "
            + "VELVET: half of as CARPET. MAT: 0. STAIR: as RUNNER, and MOTHS. SHAG: as VELVET, and 1 in RAIN.");
        dueOfKinds(7, 0, false, 1, 2, 0, 0, 2, 0);
        dueOfKinds(7, 9, false, 1, 2, 0, 0, 11, 0);
        dueOfKinds(7, 0, true, 3, 4, 1, 0, 4, 2);
        dueOfKinds(7, 9, true, 3, 4, 1, 0, 13, 2);
        says(0, "BREEDS (MOTHS in a day rolled up): CARPET: 1. RUNNER: as CARPET. VELVET: as CARPET, and 1. MAT: 0. STAIR: "
            + "as RUNNER. SHAG: as VELVET, but 0 in RAIN.");
        dueOfKinds(8, 0, false, 1, 1, 2, 0, 1, 2);
        dueOfKinds(8, 9, false, 1, 1, 2, 0, 1, 2);
        dueOfKinds(8, 0, true, 1, 1, 2, 0, 1, 0);
        dueOfKinds(8, 9, true, 1, 1, 2, 0, 1, 0);
        says(0, "BEATEN (PILE that it gets): CARPET: 10. RUNNER: as CARPET, less MOTHS. VELVET: as CARPET, less 4. MAT: 0. "
            + "STAIR: as RUNNER. SHAG: as VELVET, twice that.");
        dueOfKinds(9, 0, false, 10, 10, 6, 0, 10, 12);
        dueOfKinds(9, 9, false, 10, 1, 6, 0, 1, 12);
        dueOfKinds(9, 9, true, 10, 1, 6, 0, 1, 12);
    }

    private static void over() {
        says(0, "at a ROLL (a number; the later one lies over the earlier one)");
        x.carpet(1, 1);
        x.carpet(3, 2);
        x.roll(1, 38);
        due("yard(38, 1)", x.yard(38, 1), 1);
        x.roll(0, 38);
        due("yard(38, 1): the later one", x.yard(38, 1), 0);
        x.roll(1, 38);
        due("yard(38, 1): the later one", x.yard(38, 1), 1);
        due("yard(39, 2): both lie there", x.yard(39, 2), 3);
        says(0, "of several of the one at the latest ROLL; nobody's (-1), if none does.");
        due("yard(20, 0) of none", x.yard(20, 0), -1);
        for (int c = 0; c < 8; c++) {
            x.carpet(0, c % 4);
        }
        int[] order = {3, 7, 0, 5, 1, 6, 2, 4};
        for (int c : order) {
            x.roll(c, 20);
            due("yard(20, 1)", x.yard(20, 1), c);
            due("yard(20, 0)", x.yard(20, 0), c % 4);
        }
        for (int i = 7; i >= 0; i--) {
            due("yard(27, 1)", x.yard(27, 1), order[i]);
            x.up(order[i]);
        }
        due("yard(20, 0) of none", x.yard(20, 0), -1);
        due("yard(20, 1) of none", x.yard(20, 1), -1);
    }

    private static void dueDay(int kind, int pile, int moths, boolean wet, int pileThen) {
        x = one(kind, 8, pile == 0 ? 1 : pile, moths);
        x.rain(0, wet ? 1 : 0);
        x.roll(0, 0);
        x.set(0, 3, pile);
        String call = NAMES[kind] + " that lies, PILE " + pile + ", MOTHS " + moths + (wet ? ", wet" : ", dry");
        due(call + ": on(0, 1, 0)", x.on(0, 1, 0), pileThen);
        due(call + ": on(0, 1, 1)", x.on(0, 1, 1), moths);
        due(call + ": on(0, 1, 2)", x.on(0, 1, 2), pileThen == 0 ? -1 : 0);
        due(call + ": days(1)", x.days(1), pileThen == 0 ? 0 : 1);
        due(call + ": PILE", x.of(0, 3), pileThen);
        due(call + ": MOTHS", x.of(0, 4), moths);
        due(call + ": FROM", x.of(0, 5), pileThen == 0 ? -1 : 0);
    }

    private static void aDayLies() {
        says(0, "PILE is what it WEARS less (0 at least); if it is 0 then, it is rolled up.");
        dueDay(0, 99, 0, false, 98);
        dueDay(0, 2, 0, false, 1);
        dueDay(0, 1, 0, false, 0);
        dueDay(0, 0, 0, false, 0);
        dueDay(0, 4, 0, true, 1);
        dueDay(0, 3, 0, true, 0);
        dueDay(0, 2, 0, true, 0);
        dueDay(0, 1, 9, true, 0);
        dueDay(1, 3, 9, false, 1);
        dueDay(1, 2, 9, false, 0);
        dueDay(1, 5, 0, true, 1);
        dueDay(1, 4, 0, true, 0);
        dueDay(2, 1, 9, false, 1);
        dueDay(2, 0, 0, false, 0);
        dueDay(2, 2, 0, true, 1);
        dueDay(2, 1, 0, true, 0);
        dueDay(3, 1, 9, true, 1);
        dueDay(3, 0, 9, true, 0);
        dueDay(4, 12, 9, false, 1);
        dueDay(4, 11, 9, false, 0);
        dueDay(4, 14, 9, true, 1);
        dueDay(4, 13, 9, true, 0);
        dueDay(4, 1, 9, true, 0);
        dueDay(5, 1, 9, false, 1);
        dueDay(5, 3, 9, true, 1);
        dueDay(5, 2, 9, true, 0);
        dueDay(5, 1, 9, true, 0);
        says(0, "DAY is 1 more.");
        for (int day = 0; day < 9; day++) {
            due("now(0)", x.now(0), day);
            x.days(1);
        }
    }

    private static void dueNight(int kind, int pile, int moths, boolean wet, int pileThen, int mothsThen) {
        x = one(kind, 8, pile, moths);
        x.rain(0, wet ? 1 : 0);
        String call = NAMES[kind] + " rolled up, PILE " + pile + ", MOTHS " + moths + (wet ? ", wet" : ", dry");
        due(call + ": on(0, 1, 0)", x.on(0, 1, 0), pileThen);
        due(call + ": on(0, 1, 1)", x.on(0, 1, 1), mothsThen);
        due(call + ": days(1)", x.days(1), 0);
        due(call + ": PILE", x.of(0, 3), pileThen);
        due(call + ": MOTHS", x.of(0, 4), mothsThen);
    }

    private static void aDayIsRolledUp() {
        says(0, "One that is rolled up (as the DAY began): MOTHS are what it BREEDS more (9 at most), then PILE a third of "
            + "MOTHS less (0 at least).");
        dueNight(0, 50, 0, false, 50, 1);
        dueNight(0, 50, 1, true, 50, 2);
        dueNight(0, 50, 2, false, 49, 3);
        dueNight(0, 50, 7, false, 48, 8);
        dueNight(0, 50, 8, false, 47, 9);
        dueNight(0, 50, 9, true, 47, 9);
        dueNight(0, 4, 9, false, 1, 9);
        dueNight(0, 3, 9, false, 0, 9);
        dueNight(0, 2, 9, false, 0, 9);
        dueNight(0, 0, 9, false, 0, 9);
        dueNight(0, 0, 0, false, 0, 1);
        dueNight(1, 50, 8, false, 47, 9);
        dueNight(2, 50, 0, false, 50, 2);
        dueNight(2, 50, 1, true, 49, 3);
        dueNight(2, 50, 7, false, 47, 9);
        dueNight(2, 50, 8, false, 47, 9);
        dueNight(3, 50, 0, false, 50, 0);
        dueNight(3, 50, 2, true, 50, 2);
        dueNight(3, 1, 9, true, 0, 9);
        dueNight(4, 50, 8, true, 47, 9);
        dueNight(5, 50, 1, false, 49, 3);
        dueNight(5, 50, 2, true, 50, 2);
        dueNight(5, 50, 8, false, 47, 9);
        dueNight(5, 50, 9, true, 47, 9);
        says(0, "(as the DAY began)");
        x = one(2, 8, 1, 8);
        x.rain(0, 1);
        x.roll(0, 0);
        due("days(1)", x.days(1), 0);
        due("MOTHS of one that is through on this DAY", x.of(0, 4), 8);
        due("days(1)", x.days(1), 0);
        due("MOTHS a DAY later", x.of(0, 4), 9);
        x = one(0, 8, 50, 8);
        x.roll(0, 0);
        x.up(0);
        due("days(1)", x.days(1), 0);
        due("MOTHS of one that was taken up before", x.of(0, 4), 9);
    }

    private static void onChangesNothing() {
        says(0, "ON: n DAYS go on with all as it is; nothing changes.");
        with(EdgesTest::eight);
        asks("on", y -> y.on(1, 200, 2));
        asks("ownsOn", y -> y.ownsOn(-1, 200));
        asks("ends", y -> y.ends(0));
        asks("bare", y -> y.bare(6));
        asks("changes", y -> y.changes(20));
        asks("best", y -> y.best(5, 60));
        asks("take", y -> y.take(1, 60));
        asks("kind", y -> y.kind(4));
        asks("enough", y -> y.enough(3, 60));
        asks("weather", y -> y.weather(60));
        asks("fewest", y -> y.fewest(1, 12));
        asks("read", y -> y.read(0, 1));
        asks("yard", y -> y.yard(20, 2));
        asks("owns", y -> y.owns(-1));
        asks("borders", y -> y.borders());
        asks("walk", y -> y.walk(20));
        asks("now", y -> y.now(3));
        asks("of", y -> y.of(5, 6));
        asks("as", y -> y.as(5, 2));
        asks("count", y -> y.count(3));
        asks("status", y -> y.status(-1));
        with(CarpetRealms::new);
    }

    private static void sheetsAtFirst() {
        says(0, "SHEETS 0 to 3 are rows of at most 40 numbers of 8, 16 or 64 bits, or MISSING (at first).");
        for (int s = 0; s < 4; s++) {
            due("write(" + s + ", 0, 1)", x.write(s, 0, 1L), MISSING);
            due("lays(" + s + ")", x.lays(s), MISSING);
        }
        for (int bits : new int[] {8, 16, 64}) {
            for (int s = 0; s < 4; s++) {
                due("sheet(" + s + ", " + bits + ", 40)", x.sheet(s, bits, 40), 40);
                due("write(" + s + ", 39, 1)", x.write(s, 39, 1L), 0);
                due("write(" + s + ", 40, 1)", x.write(s, 40, 1L), BEYOND);
                due("sheet(" + s + ", " + bits + ", 41)", x.sheet(s, bits, 41), BEYOND);
            }
        }
    }

    private static void lastCall() {
        says(0, "An object is used for at most 512 calls after it has been made");
        x.carpet(3, 2);
        for (int i = 0; i < 255; i++) {
            due("roll, call " + (2 * i + 2), x.roll(0, i % 39), 2);
            due("walk, call " + (2 * i + 3), x.walk(i % 39), 2);
        }
        due("now(2), the 512th call", x.now(2), 255);
    }

    // ---- the street

    private static void theStreet() {
        newObject();
        rain();
        yard();
        owns();
        borders();
        walk();
        now();
    }

    private static void newObject() {
        with(CarpetRealms::new);
        says(1, "No CARPETS; THE TAPE is empty, no image is kept.");
        for (int what = 0; what < 4; what++) {
            due("count(" + what + ")", x.count(what), 0);
        }
        for (int what = 0; what < 5; what++) {
            due("now(" + what + ")", x.now(what), 0);
        }
        due("wipe()", x.wipe(), 0);
        due("palace()", x.palace(), -1);
        due("tear()", x.tear(), 0);
        for (int which = -1; which < 7; which++) {
            due("status(" + which + ")", x.status(which), 0);
        }
        due("undo()", x.undo(), NONE);
        for (Bound carpet : ofCarpets()) {
            due("a call of carpet 0", carpet.on(x, 0), BEYOND);
        }
        says(1, "No CARPETS");
        for (int yard = 0; yard < 40; yard++) {
            due("yard(" + yard + ", 0)", x.yard(yard, 0), -1);
            due("yard(" + yard + ", 1)", x.yard(yard, 1), -1);
            due("yard(" + yard + ", 2)", x.yard(yard, 2), 0);
            due("walk(" + yard + ")", x.walk(yard), 40);
        }
        for (int realm = 0; realm < 4; realm++) {
            due("owns(" + realm + ")", x.owns(realm), 0);
            due("ownsOn(" + realm + ", 200)", x.ownsOn(realm, 200), 0);
            due("take(" + realm + ", 60)", x.take(realm, 60), NONE);
            due("fewest(" + realm + ", 0)", x.fewest(realm, 0), 0);
            due("fewest(" + realm + ", 1)", x.fewest(realm, 1), NONE);
        }
        due("owns(-1)", x.owns(-1), 40);
        due("ownsOn(-1, 200)", x.ownsOn(-1, 200), 40);
        due("borders()", x.borders(), 0);
        due("weather(60)", x.weather(60), 0);
        due("changes(0)", x.changes(0), NONE);
        x.sheet(0, 8, 40);
        due("lays(0)", x.lays(0), 0);
        due("days(60)", x.days(60), 0);
    }

    /** Each call that has a number of a carpet, with all else as it may be. */
    private static Bound[] ofCarpets() {
        return new Bound[] {
            (y, c) -> y.of(c, 0), (y, c) -> y.set(c, 3, 9), (y, c) -> y.turn(c, 3), (y, c) -> y.as(c, 0),
            (y, c) -> y.roll(c, 0), (y, c) -> y.up(c), (y, c) -> y.beat(c), (y, c) -> y.on(c, 0, 0),
            (y, c) -> y.ends(c), (y, c) -> y.bare(c), (y, c) -> y.best(c, 0), (y, c) -> y.kind(c),
            (y, c) -> y.enough(c, 1)};
    }

    private static void rain() {
        with(EdgesTest::three);
        says(2, "RAIN of a place (0 to 6) becomes v: what it was. BEYOND.");
        bounds("place", 0, 6, (y, v) -> y.rain(v, 1));
        bounds("v", 0, 1, (y, v) -> y.rain(3, v));
        refused("rain(-1, -1)", BEYOND, y -> y.rain(-1, -1));
        refused("rain(7, 2)", BEYOND, y -> y.rain(7, 2));
        with(CarpetRealms::new);
        says(2, "what it was");
        for (int place = 0; place < 7; place++) {
            x = new CarpetRealms();
            due("rain(" + place + ", 1)", x.rain(place, 1), place == 3 ? 1 : 0);
            due("rain(" + place + ", 1)", x.rain(place, 1), 1);
            due("rain(" + place + ", 0)", x.rain(place, 0), 1);
            due("rain(" + place + ", 0)", x.rain(place, 0), 0);
            for (int other = 0; other < 7; other++) {
                due("rain(" + other + ", 0)", x.rain(other, 0), other == 3 && place != 3 ? 1 : 0);
            }
        }
    }

    private static void yard() {
        with(EdgesTest::three);
        says(3, "Of a YARD: what 0 whose it is (-1), 1 which carpet lies on top there (-1), 2 those that lie there, as a "
            + "set. BEYOND.");
        bounds("yard", 0, 39, (y, v) -> y.yard(v, 0));
        bounds("yard", 0, 39, (y, v) -> y.yard(v, 1));
        bounds("yard", 0, 39, (y, v) -> y.yard(v, 2));
        bounds("what", 0, 2, (y, v) -> y.yard(20, v));
        // The RUNNER lies on 10 to 27, the SHAG on 16 to 23.
        int[] yards = {9, 10, 15, 16, 23, 24, 27, 28};
        int[] whose = {-1, 1, 1, 2, 2, 1, 1, -1};
        int[] top = {-1, 0, 0, 1, 1, 0, 0, -1};
        int[] set = {0, 1, 1, 3, 3, 1, 1, 0};
        x = three();
        for (int i = 0; i < yards.length; i++) {
            due("yard(" + yards[i] + ", 0)", x.yard(yards[i], 0), whose[i]);
            due("yard(" + yards[i] + ", 1)", x.yard(yards[i], 1), top[i]);
            due("yard(" + yards[i] + ", 2)", x.yard(yards[i], 2), set[i]);
        }
    }

    private static void owns() {
        with(EdgesTest::three);
        says(4, "How many YARDS a REALM HAS (-1: that are nobody's). BEYOND.");
        bounds("realm", -1, 3, (y, v) -> y.owns(v));
        due("owns(1)", x.owns(1), 10);
        due("owns(2)", x.owns(2), 8);
        due("owns(0): its own is rolled up", x.owns(0), 0);
        due("owns(-1)", x.owns(-1), 22);
        x = one(1, 20, 50, 0);
        x.roll(0, 0);
        due("owns(1) of all the street", x.owns(1), 40);
        due("owns(-1)", x.owns(-1), 0);
        x.roll(0, 39);
        due("owns(1) of the last YARD", x.owns(1), 1);
        due("owns(-1)", x.owns(-1), 39);
    }

    private static void borders() {
        with(() -> one(0, 1, 50, 0));
        says(5, "YARDS 0 to 38 that aren't of the same REALM (or nobody's) as the next one.");
        due("borders() of none", x.borders(), 0);
        for (int yard = 0; yard < 40; yard++) {
            x.roll(0, yard);
            due("borders() of yard " + yard + " alone", x.borders(), yard == 0 || yard == 39 ? 1 : 2);
        }
        x.carpet(0, 1);
        x.set(1, 2, 1);
        x.roll(1, 38);
        due("borders() of two of the same REALM", x.borders(), 1);
        x.set(1, 1, 2);
        due("borders() of two of others", x.borders(), 2);
        x = new CarpetRealms();
        for (int c = 0; c < 8; c++) {
            x.carpet(0, c % 4);
            x.set(c, 2, 1);
            x.roll(c, 2 * c + 1);
        }
        due("borders() of eight", x.borders(), 16);
        x = one(1, 20, 50, 0);
        x.roll(0, 0);
        due("borders() of all the street", x.borders(), 0);
    }

    private static void walk() {
        with(EdgesTest::three);
        says(6, "without one that is of another REALM (or nobody's) than that. BEYOND.");
        bounds("yard", 0, 39, (y, v) -> y.walk(v));
        says(6, "(its own counted once)");
        x = one(0, 1, 50, 0);
        int[] at = {0, 1, 38, 39};
        for (int yard : at) {
            x.roll(0, yard);
            due("walk(" + yard + ") of one alone", x.walk(yard), 1);
        }
        due("walk(0): not around the end", x.walk(0), 39);
        due("walk(38)", x.walk(38), 39);
        x.roll(0, 0);
        due("walk(39): not around the end", x.walk(39), 39);
        due("walk(1)", x.walk(1), 39);
        x = one(1, 20, 50, 0);
        x.roll(0, 0);
        for (int yard = 0; yard < 40; yard++) {
            due("walk(" + yard + ") on all the street", x.walk(yard), 40);
        }
    }

    private static void now() {
        with(EdgesTest::three);
        says(7, "What 0 DAY, 1 1 if it rains, else 0, 2 ROLLS, 3 CARPETS that are rolled out, as a set, 4 PILES of all "
            + "together. BEYOND.");
        bounds("what", 0, 4, (y, v) -> y.now(v));
        due("now(0)", x.now(0), 1);
        due("now(1)", x.now(1), 0);
        due("now(2)", x.now(2), 2);
        due("now(3)", x.now(3), 3);
        // A RUNNER wears 2, a dry SHAG nothing, and one moth of a STAIR eats nothing.
        due("now(4)", x.now(4), 48 + 50 + 50);
        says(7, "4 PILES of all together");
        x = new CarpetRealms();
        for (int c = 0; c < 8; c++) {
            due("now(4)", x.now(4), 99 * c);
            x.carpet(0, 0);
            x.set(c, 3, 99);
        }
        due("now(4) of eight full ones", x.now(4), 792);
        says(7, "3 CARPETS that are rolled out, as a set");
        x = new CarpetRealms();
        for (int c = 0; c < 8; c++) {
            x.carpet(0, 0);
            due("now(3)", x.now(3), (1 << c) - 1);
            x.roll(c, 39);
        }
        due("now(3) of eight", x.now(3), 255);
        says(7, "1 1 if it rains, else 0");
        x = new CarpetRealms();
        for (int day = 0; day < 22; day++) {
            due("now(1) on DAY " + day, x.now(1), day == 3 || day == 10 || day == 17 ? 1 : 0);
            x.days(1);
        }
    }

    // ---- carpets

    private static void carpets() {
        carpet();
        of();
        set();
        turn();
        as();
        roll();
        up();
        beat();
    }

    private static void carpet() {
        with(EdgesTest::three);
        says(8, "A new one, rolled up: its number. BEYOND: kind, realm.");
        bounds("kind", 0, 5, (y, v) -> y.carpet(v, 0));
        bounds("realm", 0, 3, (y, v) -> y.carpet(0, v));
        due("carpet(5, 3)", x.carpet(5, 3), 3);
        due("of(3, 5)", x.of(3, 5), -1);
        says(8, "A new one, rolled up: its number.");
        // There was another one of this number, which undo() has taken back.
        x.image();
        x.carpet(2, 2);
        x.set(3, 2, 20);
        x.set(3, 3, 99);
        x.set(3, 4, 9);
        x.roll(3, 39);
        x.undo();
        due("carpet(4, 1)", x.carpet(4, 1), 3);
        int[] anew = {4, 1, 8, 50, 0, -1};
        for (int what = 0; what < 6; what++) {
            due("of(3, " + what + ")", x.of(3, what), anew[what]);
        }
        with(EdgesTest::eight);
        says(8, "FULL.");
        refused("carpet(0, 0)", FULL, y -> y.carpet(0, 0));
        refused("carpet(5, 3)", FULL, y -> y.carpet(5, 3));
        refused("carpet(6, 0): BEYOND is asked first", BEYOND, y -> y.carpet(6, 0));
        refused("carpet(-1, 0): BEYOND is asked first", BEYOND, y -> y.carpet(-1, 0));
        refused("carpet(0, 4): BEYOND is asked first", BEYOND, y -> y.carpet(0, 4));
        refused("carpet(0, -1): BEYOND is asked first", BEYOND, y -> y.carpet(0, -1));
    }

    /** A carpet's number is BEYOND from how many there are on: with three and with eight of them. */
    private static void carpetBounds(Bound bound) {
        with(EdgesTest::eight);
        bounds("carpet", 0, 7, bound);
        with(EdgesTest::three);
        bounds("carpet", 0, 2, bound);
    }

    private static void of() {
        says(9, "Of one: what 0 KIND, 1 REALM, 2 LONG, 3 PILE, 4 MOTHS, 5 FROM (-1), 6 REACHES, 7 WEARS, 8 BREEDS this DAY "
            + "(rolled out or not), 9 BEATEN. BEYOND.");
        carpetBounds((y, v) -> y.of(v, 0));
        carpetBounds((y, v) -> y.of(v, 9));
        bounds("what", 0, 9, (y, v) -> y.of(1, v));
        bounds("what", 0, 9, (y, v) -> y.of(2, v));
        refused("of(3, 10)", BEYOND, y -> y.of(3, 10));
        says(9, "this DAY (rolled out or not)");
        // The SHAG lies, the STAIR is rolled up; DAY 1 is dry, 5 is wet.
        int[] shagDry = {5, 2, 8, 50, 0, 16, 8, 0, 2, 12};
        int[] stairDry = {4, 0, 8, 50, 5, -1, 13, 7, 1, 5};
        for (int what = 0; what < 10; what++) {
            due("of(1, " + what + ")", x.of(1, what), shagDry[what]);
            due("of(2, " + what + ")", x.of(2, what), stairDry[what]);
        }
        x.rain(1, 1);
        due("of(1, 7)", x.of(1, 7), 2);
        due("of(1, 8)", x.of(1, 8), 0);
        due("of(2, 7)", x.of(2, 7), 9);
        due("of(2, 8)", x.of(2, 8), 1);
    }

    private static void set() {
        says(10, "REALM (what 1), LONG (2), PILE (3), MOTHS (4) of one becomes v: what it was. BEYOND.");
        carpetBounds((y, v) -> y.set(v, 1, 1));
        bounds("what", 1, 4, (y, v) -> y.set(0, v, 1));
        bounds("REALM", 0, 3, (y, v) -> y.set(0, 1, v));
        bounds("LONG", 1, 20, (y, v) -> y.set(0, 2, v));
        bounds("PILE", 0, 99, (y, v) -> y.set(0, 3, v));
        bounds("MOTHS", 0, 9, (y, v) -> y.set(0, 4, v));
        says(10, "becomes v: what it was");
        int[] least = {0, 0, 1, 0, 0};
        int[] most = {0, 3, 20, 99, 9};
        int[] first = {0, 0, 8, 50, 5};
        for (int what = 1; what <= 4; what++) {
            due("set(2, " + what + ", least)", x.set(2, what, least[what]), first[what]);
            due("set(2, " + what + ", most)", x.set(2, what, most[what]), least[what]);
            due("set(2, " + what + ", most)", x.set(2, what, most[what]), most[what]);
            due("of(2, " + what + ")", x.of(2, what), most[what]);
        }
    }

    private static void turn() {
        says(11, "One becomes one of another KIND: what it was. BEYOND.");
        carpetBounds((y, v) -> y.turn(v, 0));
        bounds("kind", 0, 5, (y, v) -> y.turn(0, v));
        says(11, "what it was");
        int was = 4;
        for (int kind : new int[] {0, 5, 3, 1, 2, 4, 0}) {
            due("turn(2, " + kind + ")", x.turn(2, kind), was);
            due("of(2, 0)", x.of(2, 0), kind);
            was = kind;
        }
    }

    private static void as() {
        says(12, "BEYOND: no such one, kind. KIND: it isn't of that kind, nor of one under it.");
        carpetBounds((y, v) -> y.as(v, 0));
        bounds("kind", 0, 5, (y, v) -> y.as(0, v));
        refused("a SHAG as RUNNER", KIND, y -> y.as(1, 1));
        refused("a SHAG as MAT", KIND, y -> y.as(1, 3));
        refused("a SHAG as STAIR", KIND, y -> y.as(1, 4));
        refused("a RUNNER as STAIR, which is under it", KIND, y -> y.as(0, 4));
        refused("none as MAT: BEYOND is asked first", BEYOND, y -> y.as(3, 3));
        refused("a SHAG as none: BEYOND is asked first", BEYOND, y -> y.as(1, 6));
    }

    private static void roll() {
        says(13, "TO ROLL OUT one: on how many YARDS it lies. BEYOND. STATE: PILE is 0.");
        carpetBounds((y, v) -> y.roll(v, 0));
        bounds("yard", 0, 39, (y, v) -> y.roll(2, v));
        with(EdgesTest::eight);
        says(13, "STATE: PILE is 0.");
        refused("roll(7, 0)", STATE, y -> y.roll(7, 0));
        refused("roll(7, 39)", STATE, y -> y.roll(7, 39));
        refused("roll(7, 40): BEYOND is asked first", BEYOND, y -> y.roll(7, 40));
        refused("roll(7, -1): BEYOND is asked first", BEYOND, y -> y.roll(7, -1));
        x.set(7, 3, 1);
        due("roll(7, 39) with PILE 1", x.roll(7, 39), 1);
        with(() -> {
            CarpetRealms y = eight();
            y.set(0, 3, 0);
            return y;
        });
        refused("roll(0, 3) of one that lies still", STATE, y -> y.roll(0, 3));
    }

    private static void up() {
        says(14, "One is rolled up: FROM where it was. BEYOND. STATE: it is rolled up.");
        carpetBounds((y, v) -> y.up(v));
        says(14, "STATE: it is rolled up.");
        refused("up(2)", STATE, y -> y.up(2));
        due("up(0)", x.up(0), 10);
        due("up(0)", x.up(0), STATE);
        x.roll(0, 0);
        due("up(0) from the first YARD", x.up(0), 0);
        x.roll(0, 39);
        due("up(0) from the last YARD", x.up(0), 39);
        x.roll(0, 3);
        x.set(0, 3, 0);
        due("up(0) of one without PILE", x.up(0), 3);
    }

    private static void dueBeaten(int kind, int pile, int moths, int want) {
        CarpetRealms y = one(kind, 8, pile, moths);
        due("beat(0), " + NAMES[kind] + ", PILE " + pile + ", MOTHS " + moths, y.beat(0), want);
        due("PILE then", y.of(0, 3), want);
        due("MOTHS then", y.of(0, 4), 0);
    }

    private static void beat() {
        says(15, "BEYOND.");
        carpetBounds((y, v) -> y.beat(v));
        says(15, "PILE is so much more (99 at most, 0 at least), MOTHS are 0: PILE then.");
        dueBeaten(0, 0, 9, 10);
        dueBeaten(0, 88, 0, 98);
        dueBeaten(0, 89, 0, 99);
        dueBeaten(0, 90, 0, 99);
        dueBeaten(0, 99, 9, 99);
        dueBeaten(1, 0, 9, 1);
        dueBeaten(1, 97, 9, 98);
        dueBeaten(1, 98, 9, 99);
        dueBeaten(1, 99, 9, 99);
        dueBeaten(1, 89, 0, 99);
        dueBeaten(1, 90, 0, 99);
        dueBeaten(2, 92, 9, 98);
        dueBeaten(2, 93, 9, 99);
        dueBeaten(2, 94, 9, 99);
        dueBeaten(3, 0, 9, 0);
        dueBeaten(3, 99, 9, 99);
        dueBeaten(4, 0, 9, 1);
        dueBeaten(4, 94, 5, 99);
        dueBeaten(4, 95, 5, 99);
        dueBeaten(5, 86, 9, 98);
        dueBeaten(5, 87, 9, 99);
        dueBeaten(5, 88, 9, 99);
    }

    // ---- days

    private static void days() {
        daysGo();
        on();
        ownsOn();
        ends();
        bare();
        changes();
    }

    private static void daysGo() {
        with(EdgesTest::three);
        says(16, "n DAYS go (1 to 60): CARPETS that are rolled out then, as a set. BEYOND.");
        bounds("n", 1, 60, (y, v) -> y.days(v));
        due("days(60)", x.days(60), 2);
        due("now(0)", x.now(0), 61);
        says(16, "STATE: DAY would be above 9999.");
        with(() -> late(9939));
        due("days(60) to the last DAY", x.days(60) < 0 ? 1 : 0, 0);
        due("now(0)", x.now(0), 9999);
        with(() -> late(9940));
        refused("days(60)", STATE, y -> y.days(60));
        refused("days(61): BEYOND is asked first", BEYOND, y -> y.days(61));
        due("days(59) to the last DAY", x.days(59) < 0 ? 1 : 0, 0);
        due("now(0)", x.now(0), 9999);
        with(() -> late(9998));
        refused("days(2)", STATE, y -> y.days(2));
        refused("days(60)", STATE, y -> y.days(60));
        due("days(1) to the last DAY", x.days(1), 3);
        with(() -> late(9999));
        refused("days(1)", STATE, y -> y.days(1));
        refused("days(60)", STATE, y -> y.days(60));
        for (int n : new int[] {0, -1, 61, LEAST, MOST}) {
            refused("days(" + n + "): BEYOND is asked first", BEYOND, y -> y.days(n));
        }
        // No call but days has this STATE: ON goes beyond the last DAY. 9999 is wet, 10006 is.
        due("on(0, 1, 0)", x.on(0, 1, 0), 46);
        due("on(0, 8, 0)", x.on(0, 8, 0), 50 - 4 - 12 - 4);
        due("ownsOn(1, 200)", x.ownsOn(1, 200), 0);
        due("ends(0)", x.ends(0), 22);
    }

    private static void on() {
        says(17, "PILE (what 0), MOTHS (1), FROM (2; -1) of one ON n DAYS (0 to 200). BEYOND.");
        carpetBounds((y, v) -> y.on(v, 0, 0));
        bounds("n", 0, 200, (y, v) -> y.on(0, v, 0));
        bounds("what", 0, 2, (y, v) -> y.on(0, 0, v));
        bounds("what", 0, 2, (y, v) -> y.on(0, 200, v));
        // A STAIR that is rolled up, with 5 MOTHS: 6 7 8 9 9 .., so 2 2 2 3 3 .. less: 44 in three DAYS, 2 in 17.
        int[] n = {0, 1, 3, 4, 17, 18, 19, 200};
        int[] pile = {50, 48, 44, 41, 2, 0, 0, 0};
        int[] moths = {5, 6, 8, 9, 9, 9, 9, 9};
        x = three();
        for (int i = 0; i < n.length; i++) {
            due("on(2, " + n[i] + ", 0)", x.on(2, n[i], 0), pile[i]);
            due("on(2, " + n[i] + ", 1)", x.on(2, n[i], 1), moths[i]);
            due("on(2, " + n[i] + ", 2)", x.on(2, n[i], 2), -1);
        }
        // A VELVET is through in as many wet DAYS as it has PILE: with 29 on DAY 199, the 200th.
        x = one(2, 8, 29, 0);
        x.roll(0, 39);
        due("on(0, 199, 0)", x.on(0, 199, 0), 1);
        due("on(0, 199, 2)", x.on(0, 199, 2), 39);
        due("on(0, 200, 0)", x.on(0, 200, 0), 0);
        due("on(0, 200, 2)", x.on(0, 200, 2), -1);
        due("on(0, 200, 1)", x.on(0, 200, 1), 0);
    }

    private static void ownsOn() {
        with(EdgesTest::three);
        says(18, "How many YARDS a REALM HAS (-1: nobody's) ON n DAYS (0 to 200). BEYOND.");
        bounds("realm", -1, 3, (y, v) -> y.ownsOn(v, 0));
        bounds("realm", -1, 3, (y, v) -> y.ownsOn(v, 200));
        bounds("n", 0, 200, (y, v) -> y.ownsOn(1, v));
        x = one(2, 8, 29, 0);
        x.roll(0, 36);
        due("ownsOn(1, 0)", x.ownsOn(1, 0), 4);
        due("ownsOn(1, 199)", x.ownsOn(1, 199), 4);
        due("ownsOn(-1, 199)", x.ownsOn(-1, 199), 36);
        due("ownsOn(1, 200)", x.ownsOn(1, 200), 0);
        due("ownsOn(-1, 200)", x.ownsOn(-1, 200), 40);
    }

    /** A VELVET that lies from yard 0 on, as of a DAY: it is through in as many wet DAYS, 3, 10, .., as it has PILE. */
    private static CarpetRealms velvet(int day, int pile) {
        CarpetRealms y = new CarpetRealms();
        if (day > 0) {
            y.days(day);
        }
        y.carpet(2, 1);
        y.set(0, 3, pile);
        y.roll(0, 0);
        return y;
    }

    private static void ends() {
        says(19, "BEYOND. NONE.");
        carpetBounds((y, v) -> y.ends(v));
        says(19, "In how many DAYS (0 to 400) ON one is rolled up first.");
        due("ends(2) of one that is rolled up", x.ends(2), 0);
        due("ends in 399", velvet(4, 57).ends(0), 399);
        due("ends in 400", velvet(3, 58).ends(0), 400);
        with(() -> velvet(2, 58));
        refused("ends in 401", NONE, y -> y.ends(0));
        with(() -> velvet(0, 58));
        refused("ends in 403", NONE, y -> y.ends(0));
        due("ends in one", lying(0, 1).ends(0), 1);
        due("ends in two", lying(0, 2).ends(0), 2);
        due("ends of one without PILE that lies", lying(3, 0).ends(0), 1);
        with(() -> lying(3, 1));
        refused("ends of a MAT", NONE, y -> y.ends(0));
    }

    /** One of a kind that lies from yard 0 on, with so much PILE. */
    private static CarpetRealms lying(int kind, int pile) {
        CarpetRealms y = one(kind, 8, 50, 0);
        y.roll(0, 0);
        y.set(0, 3, pile);
        return y;
    }

    private static void bare() {
        says(20, "BEYOND. NONE.");
        carpetBounds((y, v) -> y.bare(v));
        says(20, "In how many DAYS (0 to 400) ON PILE of one is 0 first.");
        due("bare of one without PILE that lies", lying(0, 0).bare(0), 0);
        due("bare of one without PILE that is rolled up", one(0, 8, 0, 0).bare(0), 0);
        due("bare in one", lying(0, 1).bare(0), 1);
        due("bare in one, eaten", one(0, 8, 1, 2).bare(0), 1);
        due("bare in two, eaten", one(0, 8, 1, 1).bare(0), 2);
        due("bare in 399", velvet(4, 57).bare(0), 399);
        due("bare in 400", velvet(3, 58).bare(0), 400);
        with(() -> velvet(2, 58));
        refused("bare in 401", NONE, y -> y.bare(0));
        with(() -> lying(3, 1));
        refused("bare of a MAT that lies", NONE, y -> y.bare(0));
        with(() -> one(3, 8, 1, 2));
        refused("bare of a MAT with MOTHS that don't eat", NONE, y -> y.bare(0));
        due("bare of a MAT with MOTHS that eat", one(3, 8, 99, 3).bare(0), 99);
    }

    private static void changes() {
        with(EdgesTest::three);
        says(21, "BEYOND. NONE.");
        bounds("yard", 0, 39, (y, v) -> y.changes(v));
        refused("changes(0) of nobody's", NONE, y -> y.changes(0));
        refused("changes(39) of nobody's", NONE, y -> y.changes(39));
        says(21, "In how many DAYS (0 to 400) ON a YARD is of another REALM (or nobody's, or somebody's) than now first.");
        due("changes in one", lying(0, 1).changes(7), 1);
        due("changes in 399", velvet(4, 57).changes(0), 399);
        due("changes in 400", velvet(3, 58).changes(7), 400);
        with(() -> velvet(2, 58));
        refused("changes in 401", NONE, y -> y.changes(0));
        refused("changes(8) beside it", NONE, y -> y.changes(8));
        // A CARPET over it is through in 38: five weeks wear 45, a wet DAY and two dry ones the rest.
        x = velvet(3, 58);
        x.carpet(0, 1);
        x.roll(1, 0);
        due("changes(0): the same REALM is under it", x.changes(0), 400);
        x.set(0, 1, 2);
        due("changes(0): another REALM is under it", x.changes(0), 38);
    }

    // ---- what is best

    private static void whatIsBest() {
        best();
        take();
        kind();
        enough();
        weather();
        fewest();
    }

    private static void best() {
        says(22, "BEYOND. STATE: PILE is 0.");
        carpetBounds((y, v) -> y.best(v, 0));
        bounds("n", 0, 60, (y, v) -> y.best(0, v));
        with(EdgesTest::eight);
        refused("best(7, 0)", STATE, y -> y.best(7, 0));
        refused("best(7, 60)", STATE, y -> y.best(7, 60));
        refused("best(7, 61): BEYOND is asked first", BEYOND, y -> y.best(7, 61));
        refused("best(7, -1): BEYOND is asked first", BEYOND, y -> y.best(7, -1));
        x.set(7, 3, 1);
        due("best(7, 0) with PILE 1", x.best(7, 0), 0);
        says(22, "FROM which YARD a carpet had best be rolled out now");
        x = one(1, 19, 50, 0);
        x.roll(0, 0);
        x.carpet(3, 1);
        due("best(1, 0): 0 to 37 are its own", x.best(1, 0), 38);
        x.turn(1, 0);
        x.set(1, 2, 1);
        due("best(1, 0) of one YARD", x.best(1, 0), 38);
        x.carpet(0, 1);
        x.set(2, 2, 1);
        x.roll(2, 38);
        due("best(1, 0): the last YARD", x.best(1, 0), 39);
        says(22, "of several the least.");
        due("best on an empty street", one(0, 8, 50, 0).best(0, 0), 0);
        due("best of one that is through by then", one(0, 8, 1, 0).best(0, 1), 0);
        due("best of one over all the street", one(1, 20, 50, 0).best(0, 0), 0);
        x = one(1, 20, 50, 0);
        x.roll(0, 0);
        x.carpet(3, 1);
        due("best where all the street is its own", x.best(1, 0), 0);
        x.roll(1, 38);
        due("best where the other is through by then", x.best(1, 60), 0);
        x = one(0, 8, 50, 0);
        x.roll(0, 0);
        due("best of one that lies: it doesn't stay there, too", x.best(0, 0), 0);
        says(22, "so that its REALM HAS most ON n DAYS (0 to 60)");
        // A MAT that covers 0 and 1 stays; a CARPET of its REALM on 2 to 9 is through in 39.
        x = new CarpetRealms();
        x.carpet(3, 1);
        x.roll(0, 0);
        x.carpet(0, 1);
        x.roll(1, 2);
        x.carpet(3, 1);
        due("best(2, 38)", x.best(2, 38), 10);
        due("best(2, 39)", x.best(2, 39), 2);
        due("best(2, 60)", x.best(2, 60), 2);
    }

    private static void take() {
        with(EdgesTest::three);
        says(23, "BEYOND. NONE: none is rolled out.");
        bounds("realm", 0, 3, (y, v) -> y.take(v, 0));
        bounds("n", 0, 60, (y, v) -> y.take(0, v));
        with(() -> {
            CarpetRealms y = three();
            y.up(0);
            y.up(1);
            return y;
        });
        refused("take(0, 0)", NONE, y -> y.take(0, 0));
        refused("take(3, 60)", NONE, y -> y.take(3, 60));
        refused("take(4, 0): BEYOND is asked first", BEYOND, y -> y.take(4, 0));
        refused("take(-1, 0): BEYOND is asked first", BEYOND, y -> y.take(-1, 0));
        refused("take(0, 61): BEYOND is asked first", BEYOND, y -> y.take(0, 61));
        refused("take(0, -1): BEYOND is asked first", BEYOND, y -> y.take(0, -1));
        with(EdgesTest::three);
        says(23, "(one that isn't)");
        due("take(1, 0)", x.take(1, 0), 1);
        x.up(0);
        due("take(0, 0) of one alone", x.take(0, 0), 1);
        due("take(2, 0): its own, if there's no other", x.take(2, 0), 1);
        says(23, "of several the least.");
        due("take(3, 0): none gets more", x.take(3, 0), 0);
        due("take(0, 0): its own is rolled up", x.take(0, 0), 0);
        x = eight();
        x.up(0);
        due("take(3, 0): the MAT lies under 1 and 2, which cover it both", x.take(3, 0), 1);
        says(23, "so that a REALM HAS most ON n DAYS (0 to 60)");
        // A MAT of 1 on 0 and 1, over it a CARPET of 0, which is through in 39 by itself, and a MAT of 2 on 1 and 2.
        x = new CarpetRealms();
        x.carpet(3, 2);
        x.carpet(3, 1);
        x.carpet(0, 0);
        x.roll(1, 0);
        x.roll(2, 0);
        x.roll(0, 1);
        due("take(1, 0)", x.take(1, 0), 2);
        due("take(1, 38)", x.take(1, 38), 2);
        due("take(1, 39): the CARPET is through, the MAT of 2 isn't", x.take(1, 39), 0);
        due("take(1, 60)", x.take(1, 60), 0);
    }

    private static void kind() {
        says(24, "BEYOND.");
        carpetBounds((y, v) -> y.kind(v));
        says(24, "(within 400 DAYS; not rolled up at all: longest; 0 if it is rolled up now)");
        due("kind of a VELVET that is through in 400: a MAT", velvet(3, 58).kind(0), 3);
        due("kind of a VELVET that is through in 401: as long as a MAT, and less", velvet(2, 58).kind(0), 2);
        due("kind of one that is rolled up", one(3, 8, 50, 0).kind(0), 0);
        due("kind of one that is rolled up", one(5, 8, 99, 9).kind(0), 0);
        says(24, "of several the least.");
        due("kind of one without PILE: all are through in one", lying(5, 0).kind(0), 0);
        x = lying(5, 1);
        due("kind of one with PILE 1: the MAT", x.kind(0), 3);
        x.rain(3, 0);
        due("kind in dry weather: VELVET, MAT and SHAG stay", x.kind(0), 2);
        x = lying(4, 99);
        for (int place = 0; place < 7; place++) {
            x.rain(place, 1);
        }
        due("kind in wet weather: a VELVET is through in 99", x.kind(0), 3);
    }

    /** One of a kind that lies; wet on all DAYS, or on none. */
    private static CarpetRealms inWeather(int kind, int moths, int wet) {
        CarpetRealms y = lying(kind, 50);
        y.set(0, 4, moths);
        for (int place = 0; place < 7; place++) {
            y.rain(place, wet);
        }
        return y;
    }

    private static void enough() {
        says(25, "BEYOND. NONE.");
        carpetBounds((y, v) -> y.enough(v, 1));
        bounds("n", 1, 60, (y, v) -> y.enough(0, v));
        refused("enough of one that is rolled up", NONE, y -> y.enough(2, 1));
        refused("enough of one that is rolled up", NONE, y -> y.enough(2, 60));
        refused("enough(2, 0): BEYOND is asked first", BEYOND, y -> y.enough(2, 0));
        refused("enough(2, 61): BEYOND is asked first", BEYOND, y -> y.enough(2, 61));
        says(25, "The least PILE (0 to 99) of one now with which it isn't rolled up ON n DAYS (1 to 60).");
        due("a MAT needs one", inWeather(3, 9, 1).enough(0, 60), 1);
        due("a dry VELVET needs one", inWeather(2, 9, 0).enough(0, 60), 1);
        due("a dry CARPET", inWeather(0, 9, 0).enough(0, 1), 2);
        due("a dry CARPET", inWeather(0, 9, 0).enough(0, 60), 61);
        due("a wet CARPET of 96 in 32", inWeather(0, 0, 1).enough(0, 32), 97);
        due("a wet SHAG of 98 in 49", inWeather(5, 0, 1).enough(0, 49), 99);
        due("a dry RUNNER of 98 in 49", inWeather(1, 9, 0).enough(0, 49), 99);
        due("a dry STAIR of 88 in 8", inWeather(4, 9, 0).enough(0, 8), 89);
        with(() -> inWeather(0, 0, 1));
        refused("a wet CARPET of 99 in 33", NONE, y -> y.enough(0, 33));
        refused("a wet CARPET of 180 in 60", NONE, y -> y.enough(0, 60));
        with(() -> inWeather(4, 9, 0));
        refused("a dry STAIR of 99 in 9", NONE, y -> y.enough(0, 9));
        with(() -> inWeather(1, 0, 0));
        refused("a dry RUNNER of 100 in 50", NONE, y -> y.enough(0, 50));
    }

    private static void weather() {
        with(EdgesTest::three);
        says(26, "BEYOND.");
        bounds("n", 1, 60, (y, v) -> y.weather(v));
        says(26, "The place of RAIN (0 to 6) at which another weather (0 for 1, 1 for 0) makes PILES of all together most "
            + "ON n DAYS (1 to 60); of several the least.");
        due("weather(60) without carpets", new CarpetRealms().weather(60), 0);
        for (int wet = 0; wet < 7; wet++) {
            x = inWeather(0, 0, 0);
            x.rain(wet, 1);
            due("weather(7): dry at " + wet, x.weather(7), wet);
            x = inWeather(0, 0, 1);
            x.rain(wet, 0);
            due("weather(7): dry at any but " + wet, x.weather(7), wet == 0 ? 1 : 0);
            x = inWeather(0, 0, 0);
            due("weather: wet where it doesn't come to, in " + (wet + 1), x.weather(wet + 1), wet == 6 ? 0 : wet + 1);
        }
        // A CARPET of PILE 50 is through in 50 dry DAYS, and no weather helps it then.
        x = inWeather(0, 0, 0);
        due("weather(60)", x.weather(60), 0);
        // Rolled up, a SHAG has no young in rain: so wet is best, on the first DAY already.
        x = one(5, 8, 50, 1);
        x.rain(3, 0);
        due("weather(1) of a SHAG that is rolled up", x.weather(1), 0);
        x.days(6);
        x.set(0, 3, 50);
        x.set(0, 4, 1);
        due("weather(1) on DAY 6: the week's place", x.weather(1), 6);
    }

    private static void fewest() {
        with(EdgesTest::eight);
        says(27, "BEYOND. NONE.");
        bounds("realm", 0, 3, (y, v) -> y.fewest(v, 0));
        bounds("v", 0, 40, (y, v) -> y.fewest(0, v));
        refused("fewest(0, 21)", NONE, y -> y.fewest(0, 21));
        refused("fewest(0, 40)", NONE, y -> y.fewest(0, 40));
        refused("fewest(3, 3) of a MAT", NONE, y -> y.fewest(3, 3));
        refused("fewest(4, 40): BEYOND is asked first", BEYOND, y -> y.fewest(4, 40));
        refused("fewest(-1, 40): BEYOND is asked first", BEYOND, y -> y.fewest(-1, 40));
        refused("fewest(0, 41): BEYOND is asked first", BEYOND, y -> y.fewest(0, 41));
        says(27, "with which a REALM HAS v YARDS (0 to 40) or more");
        due("fewest(0, 0)", x.fewest(0, 0), 0);
        due("fewest(0, 7) as it is", x.fewest(0, 7), 0);
        due("fewest(0, 8)", x.fewest(0, 8), 2);
        due("fewest(0, 12)", x.fewest(0, 12), 2);
        due("fewest(0, 13)", x.fewest(0, 13), 6);
        due("fewest(0, 19)", x.fewest(0, 19), 6);
        due("fewest(0, 20)", x.fewest(0, 20), 14);
        due("fewest(3, 1)", x.fewest(3, 1), 6);
        due("fewest(3, 2): 0 lies over half of it, too", x.fewest(3, 2), 7);
        x = one(1, 20, 50, 0);
        x.roll(0, 0);
        due("fewest(1, 40) as it is", x.fewest(1, 40), 0);
        x.carpet(3, 0);
        x.roll(1, 39);
        due("fewest(1, 39) as it is", x.fewest(1, 39), 0);
        due("fewest(1, 40)", x.fewest(1, 40), 2);
        says(27, "The set of fewest CARPETS to be rolled up now (of those that aren't)");
        x = allOverOne();
        due("fewest(3, 1): all but the lowest", x.fewest(3, 1), 127);
        due("fewest(3, 8)", x.fewest(3, 8), 127);
        due("fewest(3, 9)", x.fewest(3, 9), NONE);
        x.up(0);
        due("fewest(3, 1): not one that is rolled up", x.fewest(3, 1), 126);
        says(27, "of several the least.");
        x = new CarpetRealms();
        for (int c = 0; c < 6; c++) {
            x.carpet(0, c < 3 ? 1 : 0);
            x.set(c, 2, 1);
            x.roll(c, c % 3);
        }
        due("fewest(1, 1): of 8, 16 and 32", x.fewest(1, 1), 8);
        due("fewest(1, 2): of 24, 40 and 48", x.fewest(1, 2), 24);
        due("fewest(1, 3)", x.fewest(1, 3), 56);
    }

    /** Eight over one another at the end of the street; the lowest, 7, is of 3. */
    private static CarpetRealms allOverOne() {
        CarpetRealms y = new CarpetRealms();
        for (int c = 0; c < 8; c++) {
            y.carpet(0, c == 7 ? 3 : c % 3);
        }
        for (int c = 7; c >= 0; c--) {
            y.roll(c, 32);
        }
        return y;
    }

    // ---- the text

    private static void theText() {
        feeding();
        wiping();
        tokens();
        items();
        optionalParts();
        faultPlaces();
        tooEarly();
        aNinth();
        faultChangesNothing();
        fullTape();
    }

    private static void feeding() {
        with(EdgesTest::three);
        says(28, "(n 1 to 4): how many it has. BEYOND: n. FULL.");
        bounds("n", 1, 4, (y, v) -> y.feed(0x3b3b3b3b, v));
        with(() -> taped(116));
        for (int n = 1; n <= 4; n++) {
            due("feed(.., " + n + ") behind 116", setup.get().feed(0, n), 116 + n);
        }
        for (int has = 117; has <= 120; has++) {
            int bytes = has;
            with(() -> taped(bytes));
            due("count(1)", x.count(1), bytes);
            for (int n = 1; n <= 4; n++) {
                int more = n;
                if (bytes + n <= 120) {
                    due("feed(.., " + n + ") behind " + bytes, setup.get().feed(0, n), bytes + n);
                } else {
                    refused("feed(.., " + n + ") behind " + bytes, FULL, y -> y.feed(0x3b3b3b3b, more));
                }
            }
            for (int n : new int[] {0, -1, 5, LEAST, MOST}) {
                refused("feed(.., " + n + ") behind " + bytes + ": BEYOND is asked first", BEYOND, y -> y.feed(0, n));
            }
        }
        with(CarpetRealms::new);
        says(28, "the n lowest bytes of a number behind it, the highest of these first");
        // '?' would be a fault: it is no byte of the text where it isn't among the lowest.
        due("feed", x.feed(0x6d617433, 4), 4);
        due("feed", x.feed(0x3f3f3f3b, 1), 5);
        due("feed", x.feed(0x3f647279, 3), 8);
        due("feed", x.feed(0x3f3f2033, 2), 10);
        due("palace()", x.palace(), 2);
        due("of(0, 1)", x.of(0, 1), 3);
        due("rain(3, 0)", x.rain(3, 0), 0);
        says(28, "THE TAPE gets");
        due("feed(-1, 4)", x.feed(-1, 4), 4);
        due("palace() of bytes 255", x.palace(), -1);
        due("feed(LEAST, 4)", x.feed(LEAST, 4), 4);
        due("palace() of bytes 128 and 0", x.palace(), -1);
    }

    private static void wiping() {
        says(29, "THE TAPE is empty: how many it had.");
        due("wipe() of none", x.wipe(), 0);
        x.feed('a', 1);
        due("wipe() of one", x.wipe(), 1);
        due("wipe() again", x.wipe(), 0);
        x = taped(120);
        due("wipe() of a full one", x.wipe(), 120);
        due("count(1)", x.count(1), 0);
        due("feed behind it", x.feed(0, 4), 4);
        due("wipe()", x.wipe(), 4);
        due("rain(6, 0): nothing was read", x.rain(6, 0), 0);
    }

    private static void tokens() {
        with(CarpetRealms::new);
        says(0, "TOKENS, each as long as can be: WORDS (letters a to z), NUMBERS (digits, 999 at most), SIGN ; ; blanks may "
            + "stand between.");
        dueText("mat0", 1);
        dueText("mat0long1pile1from1", 1);
        dueText("mat0;mat0", 2);
        dueText("  mat  0  long  20  ;  rain  6  ", 2);
        due("of(4, 2)", x.of(4, 2), 20);
        x = new CarpetRealms();
        dueText("mat 0 pile 10", 1);
        due("of(0, 3): ten, and not one and then none", x.of(0, 3), 10);
        dueText("mats 0", -1);
        dueText("mata 0", -1);
        dueText("matz 0", -1);
        dueText("amat 0", -1);
        dueText("zmat 0", -1);
        dueText("ma t 0", -1);
        dueText("mat 0long1 0", -12);
        dueText("mat 0 pile 1 0", -14);
        dueText("mat 00", 1);
        dueText("mat 03", 1);
        dueText("mat 30", -5);
        // What stands just beside a to z and 0 to 9 begins no TOKEN.
        for (char c : new char[] {'`', '{', '@', 'A', 'M', 'Z', '[', '/', ':', '<', '-', '+', '.', ',', '_', 0, 9, 10, 13,
            31, 33, 127, 128, 160, 223, 255}) {
            x = new CarpetRealms();
            dueText(c + "mat 0", -1);
            dueText("mat" + c + "0", -4);
            dueText("mat 0" + c, -6);
            dueText("mat 0;" + c, -7);
            due("count(0)", x.count(0), 0);
        }
        for (String digits : new String[] {"4", "10", "99", "100", "999", "1000", "1003", "4294967296", "4294967299",
            "18446744073709551616", "99999999999999999999999999999999"}) {
            dueText("mat " + digits, -5);
            dueText("dry 3;rain 1" + digits, -12);
        }
    }

    private static void items() {
        with(CarpetRealms::new);
        says(0, "ITEM: the name of a KIND (carpet runner velvet mat stair shag), a NUMBER (the REALM, 0 to 3)");
        for (int kind = 0; kind < 6; kind++) {
            for (int realm = 0; realm < 4; realm++) {
                x = new CarpetRealms();
                dueText(NAMES[kind] + " " + realm, 1);
                due("KIND", x.of(0, 0), kind);
                due("REALM", x.of(0, 1), realm);
                due("LONG", x.of(0, 2), 8);
                due("PILE", x.of(0, 3), 50);
                due("MOTHS", x.of(0, 4), 0);
                due("FROM", x.of(0, 5), -1);
                due("ROLLS", x.now(2), 0);
            }
            dueText(NAMES[kind] + " 4", -2 - NAMES[kind].length());
            dueText(NAMES[kind] + "s 0", -1);
            dueText(NAMES[kind].substring(1) + " 0", -1);
            dueText(NAMES[kind].substring(0, NAMES[kind].length() - 1) + " 0", -1);
            dueText("z" + NAMES[kind].substring(1) + " 0", -1);
            dueText(NAMES[kind].substring(0, NAMES[kind].length() - 1) + "z 0", -1);
        }
        dueBetween("mat 0 long ", 1, 20, 2);
        dueBetween("mat 0 pile ", 0, 99, 3);
        dueBetween("mat 0 from ", 0, 39, 5);
        says(0, "rain or dry, a NUMBER (0 to 6): RAIN of that place is 1, or 0.");
        for (int place = 0; place < 7; place++) {
            x = new CarpetRealms();
            dueText("rain " + place, 1);
            due("rain(" + place + ", 0)", x.rain(place, 0), 1);
            x.rain(place, 1);
            dueText("dry " + place, 1);
            due("rain(" + place + ", 0)", x.rain(place, 0), 0);
        }
        dueText("rain 7", -6);
        dueText("dry 7", -5);
        dueText("rain", -5);
        dueText("dry", -4);
        dueText("rain rain", -6);
        dueText("rain 3; dry 3; rain 3", 3);
        due("rain(3, 0): the last ITEM", x.rain(3, 0), 1);
        upItems();
    }

    /** One ITEM whose last NUMBER may be from least to most; what of the carpet it becomes. */
    private static void dueBetween(String begin, int least, int most, int what) {
        says(0, what == 2 ? "perhaps long and a NUMBER (1 to 20)" : what == 3 ? "perhaps pile and a NUMBER (0 to 99)"
            : "perhaps from and a NUMBER (a YARD: it is rolled out)");
        for (int v = 0; v <= most + 1; v++) {
            x = new CarpetRealms();
            boolean may = v >= least && v <= most;
            dueText(begin + v, may ? 1 : -1 - begin.length());
            due("count(0)", x.count(0), may ? 1 : 0);
            due("of(0, " + what + ") of '" + begin + v + "'", x.of(0, what), may ? v : BEYOND);
            due("ROLLS", x.now(2), may && what == 5 ? 1 : 0);
        }
    }

    private static void upItems() {
        says(0, "up, a NUMBER (a carpet that is rolled out by then): it is rolled up");
        dueText("up 0", -4);
        dueText("mat 0 from 0;up 0", 2);
        due("of(0, 5)", x.of(0, 5), -1);
        dueText("up 0", -4);
        dueText("up 1", -4);
        x.roll(0, 39);
        dueText("up 0;up 0", -9);
        due("of(0, 5): nothing changed", x.of(0, 5), 39);
        dueText("up 0;mat 0 from 1;up 1;mat 3 from 2", 4);
        due("now(3)", x.now(3), 4);
        dueText("up 3", -4);
        dueText("up", -3);
        dueText("up;", -3);
        dueText("up up", -4);
        dueText("up 2", 1);
        x = eight();
        dueText("up 7", -4);
        dueText("up 8", -4);
        x.set(7, 3, 1);
        x.roll(7, 0);
        dueText("up 7", 1);
        due("of(7, 5)", x.of(7, 5), -1);
        due("status(-1): no FAULT is a finding", x.status(-1), 0);
    }

    private static void optionalParts() {
        says(0, "perhaps long and a NUMBER (1 to 20), perhaps pile and a NUMBER (0 to 99), perhaps from and a NUMBER (a "
            + "YARD: it is rolled out): one more");
        for (int parts = 0; parts < 8; parts++) {
            x = new CarpetRealms();
            String text = "stair 2" + ((parts & 1) != 0 ? " long 3" : "") + ((parts & 2) != 0 ? " pile 4" : "")
                + ((parts & 4) != 0 ? " from 5" : "");
            dueText(text, 1);
            due("LONG of '" + text + "'", x.of(0, 2), (parts & 1) != 0 ? 3 : 8);
            due("PILE of '" + text + "'", x.of(0, 3), (parts & 2) != 0 ? 4 : 50);
            due("FROM of '" + text + "'", x.of(0, 5), (parts & 4) != 0 ? 5 : -1);
            due("ROLLS of '" + text + "'", x.now(2), (parts & 4) != 0 ? 1 : 0);
        }
        String[] words = {"long", "pile", "from"};
        for (int first = 0; first < 3; first++) {
            for (int second = 0; second <= first; second++) {
                dueText("mat 0 " + words[first] + " 3 " + words[second] + " 3", -14);
            }
            dueText("mat 0 " + words[first], -11);
            dueText("mat 0 " + words[first] + ";", -11);
            dueText("mat 0 " + words[first] + " x", -12);
            dueText("mat " + words[first] + " 3", -5);
            dueText(words[first] + " 3", -1);
        }
        x = new CarpetRealms();
        dueText("mat 0 from 3; mat 1 from 3; mat 2 from 2", 3);
        due("yard(3, 1): the later ITEM lies over the earlier one", x.yard(3, 1), 2);
        due("now(2)", x.now(2), 3);
        x.up(2);
        due("yard(3, 1)", x.yard(3, 1), 1);
    }

    private static void faultPlaces() {
        says(0, "FAULT: the place (from 0) of the first byte of the first TOKEN that can't stand there (a NUMBER that may "
            + "not be, another WORD, a byte that begins no TOKEN");
        dueText("snow 3", -1);
        dueText("snow 9 ?", -1);
        dueText("   snow 3", -4);
        dueText("3", -1);
        dueText(";", -1);
        dueText("; mat 0", -1);
        dueText("mat 0;;mat 0", -7);
        dueText("mat 0 ; ; mat 0", -9);
        dueText("mat 0 mat 0", -7);
        dueText("mat 0 1", -7);
        dueText("mat 0 up 0", -7);
        dueText("mat 0   snow", -9);
        dueText("mat 0 snow ?", -7);
        dueText("mat 4 ?", -5);
        dueText("mat ? 4", -5);
        dueText("rain 7; snow", -6);
        dueText("rain 6 6", -8);
        dueText("rain 6 rain 6", -8);
        dueText("rain 6; mat 4", -13);
        dueText("mat mat 0", -5);
        due("count(0): nothing came", x.count(0), 0);
        due("rain(6, 0): nothing came", x.rain(6, 0), 0);
    }

    private static void tooEarly() {
        says(0, "or how many bytes there are if it ends too early.");
        dueText("", -1);
        dueText(" ", -2);
        dueText("    ", -5);
        // Each text that a whole one begins with; where it may end there are so many ITEMS, else it ends too early.
        String[] parts = {"carpet", " 0", " long", " 8", " pile", " 50", " from", " 3", ";", "up", " 0", ";", "rain", " 6",
            "  "};
        int[] itemsThere = {0, 1, 0, 1, 0, 1, 0, 1, 0, 0, 2, 0, 0, 3, 3};
        String text = "";
        for (int i = 0; i < parts.length; i++) {
            text = text + parts[i];
            x = new CarpetRealms();
            dueText(text, itemsThere[i] > 0 ? itemsThere[i] : -1 - text.length());
            due("count(0) of '" + text + "'", x.count(0), itemsThere[i] > 0 ? 1 : 0);
        }
        says(0, "TEXT: ITEM { ; ITEM }.");
        dueText("rain 1", 1);
        dueText("rain 1;rain 2", 2);
        dueText("rain 1;rain 2;dry 3", 3);
        dueText("rain 1 rain 2", -8);
        dueText(";rain 1", -1);
        dueText("rain 1;", -8);
        dueText("rain 1;;rain 2", -8);
        says(30, "how many ITEMS. With a FAULT: -1 less its place");
        dueText("", -1);
        dueText("dry 0", 1);
        dueText("dry 0;dry 0", 2);
        dueText("dry 0;dry 0;", -13);
    }

    private static void aNinth() {
        with(CarpetRealms::new);
        says(0, "the name of a KIND for a 9th: its own");
        String all = "";
        for (int c = 0; c < 8; c++) {
            all = all + (c == 0 ? "" : ";") + "mat " + c % 4;
        }
        dueText(all, 8);
        x = new CarpetRealms();
        dueText(all + ";mat 0", -2 - all.length());
        due("count(0)", x.count(0), 0);
        dueText(all + "; mat 9", -3 - all.length());
        dueText(all + ";snow", -2 - all.length());
        dueText(all + ";rain 0", 9);
        for (String name : NAMES) {
            dueText(name + " 0", -1);
            dueText(name, -1);
            dueText("dry 3; " + name + " 7", -8);
        }
        due("rain(3, 0): nothing came", x.rain(3, 0), 1);
        due("count(0)", x.count(0), 8);
        due("status(-1): it is no finding", x.status(-1), 0);
    }

    /** A text with a FAULT on one of two objects, and none on the other: they stay alike. */
    private static void dueFault(String text, int place) {
        CarpetRealms one = setup.get();
        CarpetRealms twin = setup.get();
        one.wipe();
        twin.wipe();
        feed(one, text);
        due("palace() of '" + text + "'", one.palace(), -1 - place);
        dueAlike("palace() of '" + text + "'", one, twin, NO_FINDING);
    }

    private static void faultChangesNothing() {
        with(EdgesTest::three);
        says(30, "(nothing changes but that THE TAPE is empty; no finding)");
        dueFault("", 0);
        dueFault("?", 0);
        dueFault("mat 0;", 6);
        dueFault("mat 3 long 1 pile 1 from 20;?", 28);
        dueFault("mat 3 long 1 pile 1 from 40", 25);
        dueFault("up 0;up 1;up 2", 13);
        dueFault("rain 0;dry 3;dry 5;rain 7", 24);
        dueFault("mat 0 from 20;up 3;up 3", 22);
        dueFault("mat 0;mat 0;mat 0;mat 0;mat 0;mat 0", 30);
        with(EdgesTest::eight);
        dueFault("up 0;rain 0;mat", 12);
        with(EdgesTest::three);
        says(30, "whose ITEMS come to what there is, and empty then");
        x.wipe();
        feed(x, "mat 3 from 20;up 0;rain 0");
        due("palace()", x.palace(), 3);
        due("count(1)", x.count(1), 0);
        due("count(0)", x.count(0), 4);
        due("yard(20, 2)", x.yard(20, 2), 10);
        due("now(0): the DAY stays", x.now(0), 1);
        due("now(2)", x.now(2), 3);
        due("of(2, 4): the others stay", x.of(2, 4), 5);
        due("palace() again", x.palace(), -1);
    }

    private static String repeated(String part, int times) {
        StringBuilder text = new StringBuilder();
        for (int i = 0; i < times; i++) {
            text.append(part);
        }
        return text.toString();
    }

    private static void fullTape() {
        with(CarpetRealms::new);
        says(0, "from THE TAPE (bytes, at most 120)");
        dueText(repeated(" ", 120), -121);
        dueText(repeated(" ", 115) + "dry 3", 1);
        dueText(repeated(" ", 115) + "rain0", 1);
        dueText("rain0" + repeated(" ", 115), 1);
        dueText(repeated("rain0;", 20), -121);
        dueText(repeated("rain0;", 19) + "rain 0", 20);
        dueText(repeated("dry0;", 23) + "dry 0", 24);
        dueText(repeated(";", 120), -1);
        dueText(repeated("a", 120), -1);
        dueText("mat" + repeated("0", 116) + "3", 1);
        due("of(0, 1)", x.of(0, 1), 3);
        dueText("mat" + repeated("9", 117), -4);
        dueText(repeated("dry0;", 23) + "dry 7", -120);
        dueText(repeated("dry0;", 23) + "dry0?", -120);
    }

    // ---- sheets

    private static void sheets() {
        sheet();
        write();
        copyRefused();
        copyAsTheyWere();
        lays();
        book();
        read();
    }

    private static void sheet() {
        with(EdgesTest::three);
        says(31, "BEYOND: no such sheet, other bits. SIZE: n is below 0 (also with bits 0). BEYOND: n is above 40 (also "
            + "with bits 0).");
        bounds("s", 0, 3, (y, v) -> y.sheet(v, 8, 1));
        for (int bits : new int[] {LEAST, -64, -16, -8, -1, 1, 7, 9, 15, 17, 24, 32, 63, 65, 128, MOST}) {
            refused("bits " + bits, BEYOND, y -> y.sheet(0, bits, 1));
            refused("bits " + bits + " are asked before SIZE", BEYOND, y -> y.sheet(0, bits, -1));
        }
        for (int bits : new int[] {0, 8, 16, 64}) {
            for (int n = 0; n <= 40; n++) {
                due("sheet(1, " + bits + ", " + n + ")", setup.get().sheet(1, bits, n), bits == 0 ? 0 : n);
            }
            for (int n : new int[] {-1, -41, LEAST}) {
                refused("sheet(0, " + bits + ", " + n + ")", SIZE, y -> y.sheet(0, bits, n));
                refused("sheet(3, " + bits + ", " + n + ")", SIZE, y -> y.sheet(3, bits, n));
                refused("sheet(4, " + bits + ", " + n + "): the sheet is asked first", BEYOND, y -> y.sheet(4, bits, n));
            }
            for (int n : new int[] {41, 64, MOST}) {
                refused("sheet(0, " + bits + ", " + n + ")", BEYOND, y -> y.sheet(0, bits, n));
                refused("sheet(3, " + bits + ", " + n + ")", BEYOND, y -> y.sheet(3, bits, n));
            }
        }
        says(31, "A sheet has n numbers, all 0, of 8, 16 or 64 bits; bits 0: it is MISSING: n (0 if it is MISSING).");
        due("write(0, 39, 1)", x.write(0, 39, 1L), 90 + 39 - 256);
        due("sheet(0, 8, 40) anew", x.sheet(0, 8, 40), 40);
        for (int i = 0; i < 40; i++) {
            due("write(0, " + i + ", 7)", x.write(0, i, 7L), 0);
        }
        due("sheet(0, 64, 2) shorter", x.sheet(0, 64, 2), 2);
        due("write(0, 2, 7)", x.write(0, 2, 7L), BEYOND);
        due("sheet(0, 64, 40) longer", x.sheet(0, 64, 40), 40);
        for (int i = 0; i < 40; i++) {
            due("write(0, " + i + ", 7)", x.write(0, i, 7L), 0);
        }
        due("sheet(0, 0, 40)", x.sheet(0, 0, 40), 0);
        due("write(0, 0, 7)", x.write(0, 0, 7L), MISSING);
        due("sheet(0, 0, 0) again", x.sheet(0, 0, 0), 0);
        due("sheet(0, 8, 0)", x.sheet(0, 8, 0), 0);
        due("write(0, 0, 7): it has none, and isn't MISSING", x.write(0, 0, 7L), BEYOND);
        due("write(1, 0, 7): another one stays", x.write(1, 0, 7L), 300);
    }

    private static void dueLowest(int bits, long v, long want) {
        x = new CarpetRealms();
        x.sheet(0, bits, 3);
        due("write(0, 1, " + v + ") of " + bits + " bits", x.write(0, 1, v), 0);
        due("write(0, 1, 0)", x.write(0, 1, 0L), want);
        due("write(0, 0, 0): beside it", x.write(0, 0, 0L), 0);
        due("write(0, 2, 0): beside it", x.write(0, 2, 0L), 0);
    }

    private static void write() {
        with(() -> {
            CarpetRealms y = three();
            y.sheet(2, 64, 1);
            return y;
        });
        says(32, "BEYOND: no such sheet.");
        bounds("s", 0, 3, (y, v) -> y.write(v, 0, 5L));
        with(EdgesTest::three);
        says(32, "BEYOND: no such sheet. MISSING. BEYOND: no such number.");
        bounds("i of 40", 0, 39, (y, v) -> y.write(0, v, 5L));
        bounds("i of 3", 0, 2, (y, v) -> y.write(1, v, 5L));
        for (int i : new int[] {0, -1, 1, 40, LEAST, MOST}) {
            refused("write(2, " + i + ", 5) of none", BEYOND, y -> y.write(2, i, 5L));
            refused("write(3, " + i + ", 5): MISSING is asked first", MISSING, y -> y.write(3, i, 5L));
            refused("write(4, " + i + ", 5): the sheet is asked first", BEYOND, y -> y.write(4, i, 5L));
        }
        says(32, "Number i of a sheet becomes v (its lowest bits): what it was.");
        long[] v = {127, 128, 255, 256, 257, -1, -128, -129, 99, 1L << 40, Long.MIN_VALUE, Long.MAX_VALUE};
        long[] in8 = {127, -128, -1, 0, 1, -1, -128, 127, 99, 0, 0, -1};
        for (int i = 0; i < v.length; i++) {
            dueLowest(8, v[i], in8[i]);
            dueLowest(64, v[i], v[i]);
        }
        long[] w = {128, 32767, 32768, 65535, 65536, 65537, -1, -32768, -32769, 1L << 40, Long.MIN_VALUE, Long.MAX_VALUE};
        long[] in16 = {128, 32767, -32768, -1, 0, 1, -1, -32768, 32767, 0, 0, -1};
        for (int i = 0; i < w.length; i++) {
            dueLowest(16, w[i], in16[i]);
            dueLowest(64, w[i], w[i]);
        }
        dueLowest(64, BEYOND, BEYOND);
        due("status(-1): a number is no finding", x.status(-1), 0);
    }

    private static void copyRefused() {
        with(() -> {
            CarpetRealms y = three();
            y.sheet(2, 16, 5);
            y.write(2, 4, 4L);
            return y;
        });
        says(33, "BEYOND: no such sheet (either). MISSING: one is. KIND: they are not of as many bits. BEYOND: one has "
            + "not so many, or from, to or n is below 0.");
        for (int s : new int[] {-1, 4, LEAST, MOST}) {
            refused("copy(" + s + ", ..)", BEYOND, y -> y.copy(s, 0, 0, 0, 0));
            refused("copy(.., " + s + ", ..)", BEYOND, y -> y.copy(0, 0, s, 0, 0));
            refused("copy(" + s + ", ..) to a MISSING one", BEYOND, y -> y.copy(s, 0, 3, 0, 0));
            refused("copy(.., " + s + ", ..) of a MISSING one", BEYOND, y -> y.copy(3, 0, s, 0, 0));
            refused("copy(" + s + ", ..) of too many", BEYOND, y -> y.copy(s, -1, 0, 99, -1));
        }
        refused("copy of a MISSING one", MISSING, y -> y.copy(3, 0, 0, 0, 0));
        refused("copy to a MISSING one", MISSING, y -> y.copy(0, 0, 3, 0, 0));
        refused("copy of a MISSING one to itself", MISSING, y -> y.copy(3, 0, 3, 0, 0));
        refused("copy of a MISSING one, MISSING is asked first", MISSING, y -> y.copy(3, -1, 0, -1, -1));
        refused("copy to a MISSING one, MISSING is asked first", MISSING, y -> y.copy(0, 99, 3, 99, 99));
        refused("copy of other bits", KIND, y -> y.copy(0, 0, 1, 0, 0));
        refused("copy of other bits", KIND, y -> y.copy(1, 0, 0, 0, 0));
        refused("copy of other bits, KIND is asked first", KIND, y -> y.copy(0, -1, 1, -1, -1));
        refused("copy of other bits, KIND is asked first", KIND, y -> y.copy(1, 99, 0, 99, 99));
        // From 1, which has 3, to 2, which has 5, and back.
        bounds("n", 0, 3, (y, v) -> y.copy(1, 0, 2, 0, v));
        bounds("n", 0, 2, (y, v) -> y.copy(1, 1, 2, 3, v));
        bounds("n", 0, 1, (y, v) -> y.copy(1, 0, 2, 4, v));
        bounds("n", 0, 0, (y, v) -> y.copy(1, 3, 2, 5, v));
        bounds("n", 0, 3, (y, v) -> y.copy(2, 2, 1, 0, v));
        bounds("from", 0, 2, (y, v) -> y.copy(1, v, 2, 0, 1));
        bounds("from", 0, 3, (y, v) -> y.copy(1, v, 2, 0, 0));
        bounds("from", 0, 0, (y, v) -> y.copy(1, v, 2, 0, 3));
        bounds("to", 0, 4, (y, v) -> y.copy(1, 0, 2, v, 1));
        bounds("to", 0, 5, (y, v) -> y.copy(1, 0, 2, v, 0));
        bounds("to", 0, 2, (y, v) -> y.copy(1, 0, 2, v, 3));
        bounds("n", 0, 40, (y, v) -> y.copy(0, 0, 0, 0, v));
        refused("copy whose sum goes round", BEYOND, y -> y.copy(1, 2, 2, 0, MOST));
        refused("copy whose sum goes round", BEYOND, y -> y.copy(1, 0, 2, 2, MOST));
        refused("copy whose sum goes round", BEYOND, y -> y.copy(1, MOST, 2, MOST, 2));
        refused("copy whose sum goes round", BEYOND, y -> y.copy(1, LEAST, 2, LEAST, LEAST));
    }

    private static void dueRow(int s, long... want) {
        for (int i = 0; i < want.length; i++) {
            due("number " + i + " of sheet " + s, x.write(s, i, want[i]), want[i]);
        }
    }

    private static void copyAsTheyWere() {
        with(() -> {
            CarpetRealms y = new CarpetRealms();
            y.sheet(0, 64, 5);
            y.sheet(1, 64, 3);
            for (int i = 0; i < 5; i++) {
                y.write(0, i, i + (1L << 40));
            }
            return y;
        });
        long a = 1L << 40;
        says(33, "n numbers of a sheet from one on come to another one from one on (as they all were): n.");
        due("copy up", x.copy(0, 0, 0, 1, 4), 4);
        dueRow(0, a, a, a + 1, a + 2, a + 3);
        x = setup.get();
        due("copy down", x.copy(0, 1, 0, 0, 4), 4);
        dueRow(0, a + 1, a + 2, a + 3, a + 4, a + 4);
        x = setup.get();
        due("copy onto itself", x.copy(0, 0, 0, 0, 5), 5);
        dueRow(0, a, a + 1, a + 2, a + 3, a + 4);
        due("copy of none", x.copy(0, 5, 1, 3, 0), 0);
        dueRow(1, 0, 0, 0);
        due("copy to the end", x.copy(0, 4, 1, 2, 1), 1);
        dueRow(1, 0, 0, a + 4);
        due("copy to all", x.copy(0, 0, 1, 0, 3), 3);
        dueRow(1, a, a + 1, a + 2);
        dueRow(0, a, a + 1, a + 2, a + 3, a + 4);
    }

    private static void dueLaid(int bits, long v, boolean comes) {
        x = three();
        x.sheet(1, bits, 3);
        x.write(1, 0, 11L);
        x.write(1, 1, v);
        x.write(1, 2, 12L);
        due("lays(1) with " + v + " in " + bits + " bits", x.lays(1), comes ? 3 : 2);
        due("of(0, 3)", x.of(0, 3), 11);
        due("of(1, 3)", x.of(1, 3), comes ? v : 50);
        due("of(2, 3)", x.of(2, 3), 12);
        due("of(0, 5): it lies still", x.of(0, 5), 10);
    }

    private static void lays() {
        with(EdgesTest::three);
        says(34, "BEYOND: no such sheet. MISSING.");
        bounds("s", 0, 3, (y, v) -> y.lays(v));
        refused("lays(3)", MISSING, y -> y.lays(3));
        says(34, "(those that aren't 0 to 99, or stand for none, are left out): how many came.");
        for (int bits : new int[] {8, 16, 64}) {
            dueLaid(bits, 0, true);
            dueLaid(bits, 99, true);
            dueLaid(bits, 100, false);
            dueLaid(bits, -1, false);
            dueLaid(bits, -99, false);
        }
        dueLaid(16, 256, false);
        dueLaid(64, 1L << 32, false);
        dueLaid(64, Long.MIN_VALUE, false);
        dueLaid(64, Long.MAX_VALUE, false);
        x = three();
        due("lays(2) of none", x.lays(2), 0);
        // 90 stands first, then twelve times 0: there are three carpets.
        due("lays(0) of forty", x.lays(0), 3);
        due("of(0, 3)", x.of(0, 3), 90);
        due("of(1, 3)", x.of(1, 3), 0);
        due("of(1, 5): without PILE it lies till a DAY goes", x.of(1, 5), 16);
        due("days(1)", x.days(1), 1);
        x = eight();
        due("lays(0) of eight", x.lays(0), 8);
        x = new CarpetRealms();
        x.sheet(0, 8, 40);
        due("lays(0) without carpets", x.lays(0), 0);
    }

    private static void book() {
        says(35, "BEYOND: no such sheet. MISSING. BEYOND: carpet.");
        carpetBounds((y, v) -> y.book(0, v));
        bounds("s", 0, 3, (y, v) -> y.book(v, 0));
        refused("book(3, 0)", MISSING, y -> y.book(3, 0));
        refused("book(3, 3): MISSING is asked first", MISSING, y -> y.book(3, 3));
        refused("book(3, -1): MISSING is asked first", MISSING, y -> y.book(3, -1));
        refused("book(4, 3)", BEYOND, y -> y.book(4, 3));
        refused("book(2, 3) of none", BEYOND, y -> y.book(2, 3));
        says(35, "PILE of one ON 0, 1, 2, .. DAYS comes to a sheet, as many as it has numbers: how many.");
        due("book(2, 0) of none", x.book(2, 0), 0);
        due("book(1, 0)", x.book(1, 0), 3);
        dueRow(1, 48, 46, 44);
        due("book(0, 2)", x.book(0, 2), 40);
        dueRow(0, 50, 48, 46, 44, 41, 38);
        due("number 17", x.write(0, 17, 0L), 2);
        due("number 18", x.write(0, 18, 0L), 0);
        due("number 39", x.write(0, 39, 0L), 0);
        due("now(0): no DAY went", x.now(0), 1);
        due("of(2, 3)", x.of(2, 3), 50);
        for (int bits : new int[] {8, 16, 64}) {
            x = one(3, 8, 99, 0);
            x.sheet(0, bits, 40);
            due("book(0, 0)", x.book(0, 0), 40);
            due("number 0", x.write(0, 0, 0L), 99);
            due("number 39", x.write(0, 39, 0L), 99);
        }
    }

    private static void read() {
        says(36, "BEYOND: no such sheet. MISSING. BEYOND: carpet.");
        carpetBounds((y, v) -> y.read(0, v));
        bounds("s", 0, 3, (y, v) -> y.read(v, 0));
        refused("read(3, 0)", MISSING, y -> y.read(3, 0));
        refused("read(3, 3): MISSING is asked first", MISSING, y -> y.read(3, 3));
        refused("read(3, -1): MISSING is asked first", MISSING, y -> y.read(3, -1));
        refused("read(4, 3)", BEYOND, y -> y.read(4, 3));
        refused("read(2, 3) of none", BEYOND, y -> y.read(2, 3));
        says(36, "how many pairs of a KIND and MOTHS (0 to 9) of it make it just so.");
        due("read(2, 0) of none: all", x.read(2, 0), 60);
        x.sheet(1, 8, 1);
        due("read(1, 0) of another PILE: none", x.read(1, 0), 0);
        x.write(1, 0, 48L);
        due("read(1, 0) of its PILE alone: all", x.read(1, 0), 60);
        x.sheet(1, 64, 1);
        x.write(1, 0, 48L + (1L << 32));
        due("read(1, 0) of a PILE that isn't: none", x.read(1, 0), 0);
        // Dry, for two DAYS: a STAIR that wears 11 has 9 MOTHS, one that wears 2 has none, as a RUNNER with any.
        dueRead(11, 1);
        dueRead(10, 1);
        dueRead(12, 0);
        dueRead(2, 11);
        dueRead(1, 10);
        dueRead(0, 30);
        dueRead(3, 1);
        // Rolled up, 3 less is by 9 MOTHS then: 8, 9 of a CARPET, RUNNER, STAIR, 7 to 9 of a VELVET, SHAG, 9 of a MAT.
        x = one(0, 8, 50, 0);
        x.sheet(0, 8, 2);
        x.write(0, 0, 50L);
        x.write(0, 1, 47L);
        due("read(0, 0) rolled up, 3 less", x.read(0, 0), 3 * 2 + 2 * 3 + 1);
        x.write(0, 1, 46L);
        due("read(0, 0) rolled up, 4 less", x.read(0, 0), 0);
        x.write(0, 1, 51L);
        due("read(0, 0) rolled up, more", x.read(0, 0), 0);
    }

    private static void dueRead(int worn, int want) {
        x = lying(0, 50);
        x.sheet(0, 16, 3);
        x.write(0, 0, 50L);
        x.write(0, 1, 50L - worn);
        x.write(0, 2, 50L - 2 * worn);
        due("read(0, 0) of " + worn + " a DAY", x.read(0, 0), want);
    }

    // ---- images

    private static void images() {
        image();
        undo();
        tear();
        count();
        status();
    }

    private static void image() {
        with(EdgesTest::eight);
        says(37, "All that section 1 tells (THE TAPE not) is kept: 1.");
        List<Long> then = new ArrayList<>();
        seeWorld(eight(), then);
        due("image()", x.image(), 1);
        x.wipe();
        feed(x, "dry 1");
        x.sheet(0, 0, 0);
        x.rain(0, 1);
        x.rain(3, 0);
        x.days(60);
        for (int c = 0; c < 8; c++) {
            x.beat(c);
            x.set(c, 1, (c + 1) % 4);
            x.set(c, 2, 20 - c);
            x.turn(c, 5 - c % 6);
            x.set(c, 4, c);
            x.set(c, 3, 30 + c);
            x.roll(c, 7 - c);
        }
        due("undo()", x.undo(), 8);
        due("count(1): THE TAPE not", x.count(1), 5);
        due("write(0, 0, 0): the sheets not", x.write(0, 0, 0L), MISSING);
        List<Long> now = new ArrayList<>();
        seeWorld(x, now);
        due("all is as it was", now.equals(then) ? 1 : 0, 1);
        with(CarpetRealms::new);
        says(37, "is kept");
        due("image() of nothing", x.image(), 1);
        due("image() again", x.image(), 1);
        x.carpet(0, 0);
        due("undo() to no CARPETS", x.undo(), 0);
        due("count(0)", x.count(0), 0);
        due("of(0, 0)", x.of(0, 0), BEYOND);
    }

    private static void undo() {
        with(() -> {
            CarpetRealms y = eight();
            y.tear();
            return y;
        });
        says(38, "NONE: nothing is kept.");
        refused("undo()", NONE, y -> y.undo());
        with(CarpetRealms::new);
        refused("undo() of a new object", NONE, y -> y.undo());
        says(38, "It becomes what was kept latest (which stays): how many CARPETS.");
        x.image();
        x.carpet(0, 0);
        x.image();
        x.carpet(1, 1);
        x.set(0, 3, 1);
        for (int i = 0; i < 3; i++) {
            due("undo()", x.undo(), 1);
            due("count(0)", x.count(0), 1);
            due("of(0, 3)", x.of(0, 3), 50);
            x.carpet(2, 2);
            x.set(0, 3, 2 + i);
        }
        for (int c = 2; c < 8; c++) {
            x.carpet(c % 6, 3);
        }
        due("image() of eight", x.image(), 1);
        due("undo()", x.undo(), 8);
        due("carpet(0, 0)", x.carpet(0, 0), FULL);
    }

    private static void tear() {
        with(CarpetRealms::new);
        says(39, "Nothing is kept: 1 if something was, else 0.");
        due("tear()", x.tear(), 0);
        x.image();
        x.image();
        due("tear()", x.tear(), 1);
        due("tear()", x.tear(), 0);
        due("undo()", x.undo(), NONE);
        x.image();
        x.undo();
        due("tear() after undo()", x.tear(), 1);
        due("undo()", x.undo(), NONE);
        x.carpet(0, 0);
        x.image();
        x.tear();
        due("count(0): what there is stays", x.count(0), 1);
    }

    private static void count() {
        with(EdgesTest::three);
        says(40, "0 CARPETS, 1 bytes of THE TAPE, 2 those that are rolled out, 3 MOTHS of all together. BEYOND: another "
            + "what.");
        bounds("what", 0, 3, (y, v) -> y.count(v));
        due("count(0)", x.count(0), 3);
        due("count(1)", x.count(1), 13);
        due("count(2)", x.count(2), 2);
        due("count(3)", x.count(3), 5);
        x = allOverOne();
        for (int c = 0; c < 8; c++) {
            x.set(c, 4, 9);
        }
        due("count(0) of eight", x.count(0), 8);
        due("count(2) of eight", x.count(2), 8);
        due("count(3) of eight", x.count(3), 72);
        due("count(1) of a full TAPE", taped(120).count(1), 120);
    }

    private static void status() {
        with(EdgesTest::three);
        says(41, "which -1: all, 0 to 6: BEYOND to SIZE. BEYOND (counted from then on): another one.");
        bounds("which", -1, 6, (y, v) -> y.status(v));
        for (int which = -1; which < 7; which++) {
            due("status(" + which + ")", x.status(which), 0);
        }
        due("status(7)", x.status(7), BEYOND);
        due("status(0): counted from then on", x.status(0), 1);
        due("status(-2)", x.status(-2), BEYOND);
        due("status(0)", x.status(0), 2);
        due("status(-1)", x.status(-1), 2);
        says(41, "How many acts answered a finding ever (undo() takes none back)");
        Act[] acts = {y -> y.now(5), y -> overfed(y), y -> y.as(1, 1), y -> y.changes(0), y -> y.up(2), y -> y.lays(3),
            y -> y.sheet(0, 8, -1)};
        for (int which = 0; which < 7; which++) {
            x = three();
            x.image();
            for (int times = 1; times <= 3; times++) {
                due("a finding", acts[which].on(x), BEYOND - which);
                for (int other = 0; other < 7; other++) {
                    due("status(" + other + ")", x.status(other), other == which ? times : 0);
                }
                due("status(-1)", x.status(-1), times);
            }
            x.undo();
            x.tear();
            due("status(" + which + ") after undo()", x.status(which), 3);
            due("status(-1) after undo()", x.status(-1), 3);
        }
        says(41, "How many acts answered a finding ever");
        due("write in a long", x.write(4, 0, 0L), BEYOND);
        due("status(0)", x.status(0), 1);
        x.wipe();
        due("palace() with a FAULT", x.palace(), -1);
        due("yard(0, 0): -1 is no finding", x.yard(0, 0), -1);
        due("status(-1)", x.status(-1), 1);
    }

    /** FULL, whatever was on THE TAPE. */
    private static long overfed(CarpetRealms y) {
        while (y.count(1) <= 116) {
            y.feed(0x20202020, 4);
        }
        return y.feed(0x20202020, 4);
    }
}
