/** Every promise of the document by itself: ordinary inputs, the edges it names, and wrong inputs. */
public final class PromisesTest {
    private static final int BEYOND = -1000000001;
    private static final int FULL = -1000000002;
    private static final int KIND = -1000000003;
    private static final int NONE = -1000000004;
    private static final int STATE = -1000000005;
    private static final int MISSING = -1000000006;
    private static final int SIZE = -1000000007;
    private static final int[] WILD = {Integer.MIN_VALUE, -1000, 1000, Integer.MAX_VALUE};

    private static int promise = 0;
    private static int asked = 0;
    private static int wrong = 0;
    private static CarpetRealms x = null;

    private PromisesTest() {
    }

    public static void main(String[] args) {
        newObject();
        street();
        carpets();
        days();
        whatIsBest();
        text();
        sheets();
        images();
        findingsChangeNothing();
        System.out.println(wrong == 0 ? asked + " answers are as due" : wrong + " answers are not as due");
        if (wrong != 0) {
            System.exit(1);
        }
    }

    private static void due(String call, long got, long want) {
        asked++;
        if (got != want) {
            wrong++;
            System.out.println("promise " + promise + ": " + call + " answered " + got + ", due is " + want);
        }
    }

    private static void begin(int number) {
        promise = number;
        x = new CarpetRealms();
    }

    /** One of each kind, 0 to 5, of the realms 0 1 2 3 0 1. */
    private static void beginWithAll(int number) {
        begin(number);
        for (int k = 0; k < 6; k++) {
            x.carpet(k, k % 4);
        }
    }

    private static void feed(String text) {
        for (int i = 0; i < text.length(); i += 4) {
            int n = Math.min(4, text.length() - i);
            int bytes = 0;
            for (int k = 0; k < n; k++) {
                bytes = bytes << 8 | text.charAt(i + k);
            }
            x.feed(bytes, n);
        }
    }

    private static int palace(String text) {
        feed(text);
        return x.palace();
    }

    private static void dueText(String text, int want) {
        due("palace of '" + text + "'", palace(text), want);
    }

    private static void newObject() {
        begin(1);
        due("count(0)", x.count(0), 0);
        due("count(1)", x.count(1), 0);
        due("count(2)", x.count(2), 0);
        due("count(3)", x.count(3), 0);
        due("tear()", x.tear(), 0);
        due("undo()", x.undo(), NONE);
        for (int what = 0; what < 5; what++) {
            due("now(" + what + ")", x.now(what), 0);
        }
        for (int place = 0; place < 7; place++) {
            due("rain at first at " + place, x.rain(place, 0), place == 3 ? 1 : 0);
        }
        for (int s = 0; s < 4; s++) {
            due("write to sheet " + s, x.write(s, 0, 1L), MISSING);
        }
        due("owns(-1)", x.owns(-1), 40);
        due("of(0, 0)", x.of(0, 0), BEYOND);
    }

    private static void street() {
        rain();
        yard();
        owns();
        borders();
        walk();
        now();
    }

    private static void rain() {
        begin(2);
        due("rain(0, 1)", x.rain(0, 1), 0);
        due("rain(0, 1) again", x.rain(0, 1), 1);
        due("now(1)", x.now(1), 1);
        due("rain(6, 1)", x.rain(6, 1), 0);
        due("rain(6, 0)", x.rain(6, 0), 1);
        due("rain(0, 0)", x.rain(0, 0), 1);
        due("now(1)", x.now(1), 0);
        due("rain(-1, 0)", x.rain(-1, 0), BEYOND);
        due("rain(7, 0)", x.rain(7, 0), BEYOND);
        due("rain(0, -1)", x.rain(0, -1), BEYOND);
        due("rain(0, 2)", x.rain(0, 2), BEYOND);
        due("rain(0, 0) after wrong ones", x.rain(0, 0), 0);
        for (int w : WILD) {
            due("rain(" + w + ", 0)", x.rain(w, 0), BEYOND);
            due("rain(0, " + w + ")", x.rain(0, w), BEYOND);
        }
    }

    private static void yard() {
        beginWithAll(3);
        x.roll(3, 10);
        x.roll(0, 4);
        x.roll(1, 11);
        due("yard(3, 1)", x.yard(3, 1), -1);
        due("yard(3, 0)", x.yard(3, 0), -1);
        due("yard(3, 2)", x.yard(3, 2), 0);
        due("yard(4, 1)", x.yard(4, 1), 0);
        due("yard(10, 1): the later lies over", x.yard(10, 1), 0);
        due("yard(10, 0)", x.yard(10, 0), 0);
        due("yard(10, 2)", x.yard(10, 2), 9);
        due("yard(11, 1)", x.yard(11, 1), 1);
        due("yard(11, 0)", x.yard(11, 0), 1);
        due("yard(11, 2)", x.yard(11, 2), 11);
        due("yard(12, 2)", x.yard(12, 2), 2);
        due("yard(26, 2)", x.yard(26, 2), 2);
        due("yard(27, 2)", x.yard(27, 2), 0);
        x.roll(3, 11);
        due("yard(11, 0): rolled out anew lies on top", x.yard(11, 0), 3);
        due("yard(10, 2): it left this one", x.yard(10, 2), 1);
        x.up(3);
        due("yard(11, 1)", x.yard(11, 1), 1);
        x.set(1, 1, 2);
        due("yard(11, 0) of a realm set anew", x.yard(11, 0), 2);
        x.roll(2, 38);
        due("yard(39, 2)", x.yard(39, 2), 4);
        due("yard(0, 2): none lies around the end", x.yard(0, 2), 0);
        due("yard(-1, 0)", x.yard(-1, 0), BEYOND);
        due("yard(40, 0)", x.yard(40, 0), BEYOND);
        due("yard(0, -1)", x.yard(0, -1), BEYOND);
        due("yard(0, 3)", x.yard(0, 3), BEYOND);
        for (int w : WILD) {
            due("yard(" + w + ", 0)", x.yard(w, 0), BEYOND);
            due("yard(0, " + w + ")", x.yard(0, w), BEYOND);
        }
    }

    private static void owns() {
        beginWithAll(4);
        x.roll(0, 0);
        x.roll(4, 4);
        due("owns(0): two of one realm over one another", x.owns(0), 17);
        due("owns(-1)", x.owns(-1), 23);
        due("owns(1)", x.owns(1), 0);
        x.roll(3, 8);
        due("owns(3)", x.owns(3), 2);
        due("owns(0)", x.owns(0), 15);
        x.roll(1, 30);
        due("owns(1): cut at the street's end", x.owns(1), 10);
        due("owns(-1)", x.owns(-1), 13);
        x.set(4, 2, 20);
        due("owns(0): a longer one lies under the later ones", x.owns(0), 28);
        due("owns(-1)", x.owns(-1), 0);
        due("owns(-2)", x.owns(-2), BEYOND);
        due("owns(4)", x.owns(4), BEYOND);
        for (int w : WILD) {
            due("owns(" + w + ")", x.owns(w), BEYOND);
        }
    }

    private static void borders() {
        beginWithAll(5);
        due("borders()", x.borders(), 0);
        x.roll(0, 0);
        due("borders() of one at the begin", x.borders(), 1);
        x.roll(4, 8);
        due("borders(): two of one realm have none between", x.borders(), 1);
        x.roll(3, 3);
        due("borders() of one amid", x.borders(), 3);
        x.roll(1, 39);
        due("borders() of one at the end", x.borders(), 4);
        x.roll(1, 21);
        due("borders() of two realms side by side", x.borders(), 4);
        x.set(0, 2, 20);
        x.turn(0, 1);
        x.roll(0, 0);
        due("borders(): all of one", x.borders(), 0);
        begin(5);
        x.carpet(0, 0);
        x.set(0, 2, 1);
        x.roll(0, 0);
        due("borders() of the first yard alone", x.borders(), 1);
        x.roll(0, 39);
        due("borders() of the last yard alone", x.borders(), 1);
        x.roll(0, 1);
        due("borders() of the second yard alone", x.borders(), 2);
    }

    private static void walk() {
        beginWithAll(6);
        due("walk(0)", x.walk(0), 40);
        x.roll(0, 10);
        due("walk(0)", x.walk(0), 10);
        due("walk(9)", x.walk(9), 10);
        due("walk(10)", x.walk(10), 8);
        due("walk(17)", x.walk(17), 8);
        due("walk(18)", x.walk(18), 22);
        due("walk(39)", x.walk(39), 22);
        x.roll(4, 18);
        due("walk(12): on to another of the same realm", x.walk(12), 21);
        x.roll(3, 14);
        due("walk(12)", x.walk(12), 4);
        due("walk(14)", x.walk(14), 2);
        due("walk(20)", x.walk(20), 15);
        due("walk(-1)", x.walk(-1), BEYOND);
        due("walk(40)", x.walk(40), BEYOND);
        for (int w : WILD) {
            due("walk(" + w + ")", x.walk(w), BEYOND);
        }
    }

    private static void now() {
        beginWithAll(7);
        due("now(4)", x.now(4), 300);
        x.roll(1, 0);
        x.roll(5, 3);
        x.roll(1, 9);
        due("now(2)", x.now(2), 3);
        due("now(3)", x.now(3), 34);
        x.up(5);
        due("now(2) after up", x.now(2), 3);
        due("now(3) after up", x.now(3), 2);
        x.days(3);
        due("now(0)", x.now(0), 3);
        due("now(1)", x.now(1), 1);
        // carpet 0: moths 1 2 3, pile 49; 1: 44; 2: moths 2 4 6, pile 47; 3: 50; 4: as 0; 5: as 2.
        due("now(4)", x.now(4), 49 + 44 + 47 + 50 + 49 + 47);
        x.days(7);
        due("now(1) a week on", x.now(1), 1);
        x.days(1);
        due("now(1)", x.now(1), 0);
        due("now(0)", x.now(0), 11);
        due("now(-1)", x.now(-1), BEYOND);
        due("now(5)", x.now(5), BEYOND);
        for (int w : WILD) {
            due("now(" + w + ")", x.now(w), BEYOND);
        }
    }

    private static void carpets() {
        carpet();
        of();
        set();
        turn();
        as();
        roll();
        up();
        beat();
    }

    private static void carpet() {
        begin(8);
        due("carpet(-1, 0)", x.carpet(-1, 0), BEYOND);
        due("carpet(6, 0)", x.carpet(6, 0), BEYOND);
        due("carpet(0, -1)", x.carpet(0, -1), BEYOND);
        due("carpet(0, 4)", x.carpet(0, 4), BEYOND);
        due("count(0)", x.count(0), 0);
        for (int c = 0; c < 8; c++) {
            due("carpet " + c, x.carpet(c % 6, c % 4), c);
            due("its kind", x.of(c, 0), c % 6);
            due("its realm", x.of(c, 1), c % 4);
            due("its long", x.of(c, 2), 8);
            due("its pile", x.of(c, 3), 50);
            due("its moths", x.of(c, 4), 0);
            due("its from", x.of(c, 5), -1);
        }
        due("carpet(0, 0)", x.carpet(0, 0), FULL);
        due("carpet(6, 0): BEYOND is asked first", x.carpet(6, 0), BEYOND);
        due("carpet(0, 4): BEYOND is asked first", x.carpet(0, 4), BEYOND);
        due("count(0)", x.count(0), 8);
        for (int w : WILD) {
            due("carpet(" + w + ", 0)", x.carpet(w, 0), BEYOND);
            due("carpet(0, " + w + ")", x.carpet(0, w), BEYOND);
        }
    }

    private static void dueOfAll(int what, int... want) {
        for (int c = 0; c < 6; c++) {
            due("of(" + c + ", " + what + ")", x.of(c, what), want[c]);
        }
    }

    private static void of() {
        beginWithAll(9);
        dueOfAll(0, 0, 1, 2, 3, 4, 5);
        dueOfAll(1, 0, 1, 2, 3, 0, 1);
        dueOfAll(5, -1, -1, -1, -1, -1, -1);
        dueOfAll(6, 8, 16, 8, 2, 13, 8);
        dueOfAll(7, 1, 2, 0, 0, 2, 0);
        dueOfAll(8, 1, 1, 2, 0, 1, 2);
        dueOfAll(9, 10, 10, 6, 0, 10, 12);
        x.rain(0, 1);
        dueOfAll(7, 3, 4, 1, 0, 4, 2);
        dueOfAll(8, 1, 1, 2, 0, 1, 0);
        for (int c = 0; c < 6; c++) {
            x.set(c, 4, 9);
            x.set(c, 2, 3);
            x.set(c, 3, 20);
            x.roll(c, 38);
        }
        dueOfAll(2, 3, 3, 3, 3, 3, 3);
        dueOfAll(3, 20, 20, 20, 20, 20, 20);
        dueOfAll(4, 9, 9, 9, 9, 9, 9);
        dueOfAll(5, 38, 38, 38, 38, 38, 38);
        dueOfAll(6, 3, 6, 3, 2, 3, 3);
        dueOfAll(7, 3, 4, 1, 0, 13, 2);
        dueOfAll(9, 10, 1, 6, 0, 1, 12);
        for (int c = 0; c < 6; c++) {
            x.set(c, 3, 19);
        }
        dueOfAll(6, 3, 6, 3, 2, 3, 1);
        for (int c = 0; c < 6; c++) {
            x.set(c, 2, 1);
        }
        dueOfAll(6, 1, 2, 1, 2, 1, 1);
        for (int c = 0; c < 6; c++) {
            x.set(c, 2, 20);
        }
        dueOfAll(6, 20, 40, 20, 2, 37, 10);
        due("of(-1, 0)", x.of(-1, 0), BEYOND);
        due("of(6, 0)", x.of(6, 0), BEYOND);
        due("of(0, -1)", x.of(0, -1), BEYOND);
        due("of(0, 10)", x.of(0, 10), BEYOND);
        for (int w : WILD) {
            due("of(" + w + ", 0)", x.of(w, 0), BEYOND);
            due("of(0, " + w + ")", x.of(0, w), BEYOND);
        }
    }

    private static void set() {
        beginWithAll(10);
        int[] least = {0, 0, 1, 0, 0};
        int[] most = {0, 3, 20, 99, 9};
        int[] first = {0, 1, 8, 50, 0};
        for (int what = 1; what <= 4; what++) {
            due("set(1, " + what + ", most)", x.set(1, what, most[what]), first[what]);
            due("set(1, " + what + ", least)", x.set(1, what, least[what]), most[what]);
            due("of(1, " + what + ")", x.of(1, what), least[what]);
            due("set(1, " + what + ", above)", x.set(1, what, most[what] + 1), BEYOND);
            due("set(1, " + what + ", below)", x.set(1, what, least[what] - 1), BEYOND);
            for (int w : WILD) {
                due("set(1, " + what + ", " + w + ")", x.set(1, what, w), BEYOND);
            }
            due("of(1, " + what + ") after wrong ones", x.of(1, what), least[what]);
            due("of(2, " + what + "): another one", x.of(2, what), what == 1 ? 2 : first[what]);
        }
        due("set(0, 0, 1)", x.set(0, 0, 1), BEYOND);
        due("set(0, 5, 1)", x.set(0, 5, 1), BEYOND);
        due("set(6, 1, 1)", x.set(6, 1, 1), BEYOND);
        due("set(-1, 1, 1)", x.set(-1, 1, 1), BEYOND);
        x.roll(0, 3);
        x.set(0, 3, 0);
        due("of(0, 5): one without pile stays till the day goes", x.of(0, 5), 3);
        due("days(1)", x.days(1), 0);
        for (int w : WILD) {
            due("set(" + w + ", 1, 0)", x.set(w, 1, 0), BEYOND);
            due("set(0, " + w + ", 0)", x.set(0, w, 0), BEYOND);
        }
    }

    private static void turn() {
        beginWithAll(11);
        x.roll(0, 30);
        x.set(0, 3, 33);
        due("turn(0, 1)", x.turn(0, 1), 0);
        due("of(0, 0)", x.of(0, 0), 1);
        due("of(0, 3): all else stays", x.of(0, 3), 33);
        due("of(0, 5): all else stays", x.of(0, 5), 30);
        due("owns(0): it reaches as the new kind", x.owns(0), 10);
        due("turn(0, 3)", x.turn(0, 3), 1);
        due("owns(0)", x.owns(0), 2);
        due("turn(0, 3) to what it is", x.turn(0, 3), 3);
        due("turn(0, 5)", x.turn(0, 5), 3);
        due("turn(0, 0)", x.turn(0, 0), 5);
        due("turn(0, 6)", x.turn(0, 6), BEYOND);
        due("turn(0, -1)", x.turn(0, -1), BEYOND);
        due("turn(6, 0)", x.turn(6, 0), BEYOND);
        due("turn(-1, 0)", x.turn(-1, 0), BEYOND);
        due("of(0, 0)", x.of(0, 0), 0);
        for (int w : WILD) {
            due("turn(" + w + ", 0)", x.turn(w, 0), BEYOND);
            due("turn(0, " + w + ")", x.turn(0, w), BEYOND);
        }
    }

    private static void as() {
        beginWithAll(12);
        int[] over = {1, 3, 5, 9, 19, 37};
        for (int c = 0; c < 6; c++) {
            x.set(c, 3, 10 + c);
            for (int k = 0; k < 6; k++) {
                due("as(" + c + ", " + k + ")", x.as(c, k), (over[c] >> k & 1) == 1 ? 10 + c : KIND);
            }
        }
        due("as(6, 0)", x.as(6, 0), BEYOND);
        due("as(-1, 0)", x.as(-1, 0), BEYOND);
        due("as(0, 6)", x.as(0, 6), BEYOND);
        due("as(0, -1)", x.as(0, -1), BEYOND);
        x.turn(0, 4);
        due("as(0, 1) of one that was turned", x.as(0, 1), 10);
        for (int w : WILD) {
            due("as(" + w + ", 0)", x.as(w, 0), BEYOND);
            due("as(0, " + w + ")", x.as(0, w), BEYOND);
        }
    }

    private static void roll() {
        beginWithAll(13);
        due("roll(0, 0)", x.roll(0, 0), 8);
        due("roll(1, 24)", x.roll(1, 24), 16);
        due("roll(1, 25)", x.roll(1, 25), 15);
        due("roll(1, 39)", x.roll(1, 39), 1);
        due("of(1, 5)", x.of(1, 5), 39);
        due("now(2)", x.now(2), 4);
        x.set(5, 3, 1);
        due("roll(5, 3)", x.roll(5, 3), 4);
        x.set(5, 3, 0);
        due("roll(5, 4)", x.roll(5, 4), STATE);
        due("roll(5, 40): BEYOND is asked first", x.roll(5, 40), BEYOND);
        due("of(5, 5)", x.of(5, 5), 3);
        due("now(2)", x.now(2), 5);
        due("roll(0, 40)", x.roll(0, 40), BEYOND);
        due("roll(0, -1)", x.roll(0, -1), BEYOND);
        due("roll(6, 0)", x.roll(6, 0), BEYOND);
        due("roll(-1, 0)", x.roll(-1, 0), BEYOND);
        for (int w : WILD) {
            due("roll(" + w + ", 0)", x.roll(w, 0), BEYOND);
            due("roll(0, " + w + ")", x.roll(0, w), BEYOND);
        }
    }

    private static void up() {
        beginWithAll(14);
        due("up(0)", x.up(0), STATE);
        x.roll(0, 0);
        due("up(0) from the first yard", x.up(0), 0);
        due("up(0)", x.up(0), STATE);
        x.roll(0, 39);
        due("up(0) from the last yard", x.up(0), 39);
        due("of(0, 5)", x.of(0, 5), -1);
        due("owns(0)", x.owns(0), 0);
        due("up(6)", x.up(6), BEYOND);
        due("up(-1)", x.up(-1), BEYOND);
        for (int w : WILD) {
            due("up(" + w + ")", x.up(w), BEYOND);
        }
    }

    private static void beat() {
        beginWithAll(15);
        int[] clean = {60, 60, 56, 50, 60, 62};
        int[] eaten = {70, 61, 62, 50, 61, 74};
        for (int c = 0; c < 6; c++) {
            due("beat(" + c + ")", x.beat(c), clean[c]);
            x.set(c, 4, 9);
            due("beat(" + c + ") with moths", x.beat(c), eaten[c]);
            due("of(" + c + ", 4)", x.of(c, 4), 0);
            due("of(" + c + ", 3)", x.of(c, 3), eaten[c]);
            x.set(c, 3, 95);
            due("beat(" + c + ") near the top", x.beat(c), c == 3 ? 95 : 99);
        }
        x.set(0, 3, 0);
        due("beat(0) of a bare one", x.beat(0), 10);
        x.roll(0, 4);
        due("beat(0) of one that lies", x.beat(0), 20);
        due("of(0, 5)", x.of(0, 5), 4);
        due("beat(6)", x.beat(6), BEYOND);
        due("beat(-1)", x.beat(-1), BEYOND);
        for (int w : WILD) {
            due("beat(" + w + ")", x.beat(w), BEYOND);
        }
    }

    private static void days() {
        daysGo();
        daysEnd();
        on();
        ownsOn();
        ends();
        bare();
        changes();
    }

    private static void daysGo() {
        beginWithAll(16);
        x.roll(0, 0);
        x.roll(4, 0);
        x.set(4, 4, 3);
        x.set(4, 3, 5);
        due("days(1): a carpet that is through is rolled up", x.days(1), 1);
        due("of(4, 3)", x.of(4, 3), 0);
        due("of(4, 5)", x.of(4, 5), -1);
        due("of(4, 4): it lay as the day began", x.of(4, 4), 3);
        due("of(0, 3)", x.of(0, 3), 49);
        due("of(0, 4): moths breed in none that lies", x.of(0, 4), 0);
        due("of(2, 4)", x.of(2, 4), 2);
        due("of(2, 3)", x.of(2, 3), 50);
        due("days(1)", x.days(1), 1);
        due("of(4, 4)", x.of(4, 4), 4);
        due("of(2, 4)", x.of(2, 4), 4);
        due("of(2, 3)", x.of(2, 3), 49);
        due("days(2)", x.days(2), 1);
        due("of(0, 3) after rain", x.of(0, 3), 44);
        // Velvet: 2 4 6 8 moths, 0 1 2 2 less. Shag: 2 4 6, and in the rain of day 3 again 6; 0 1 2 2 less.
        due("of(2, 4)", x.of(2, 4), 8);
        due("of(2, 3)", x.of(2, 3), 45);
        due("of(5, 4)", x.of(5, 4), 6);
        due("of(5, 3)", x.of(5, 3), 45);
        due("of(3, 4): none breed in a mat", x.of(3, 4), 0);
        x.set(3, 4, 7);
        due("days(1)", x.days(1), 1);
        due("of(3, 3): but those it has eat", x.of(3, 3), 48);
        due("of(2, 4): 9 at most", x.of(2, 4), 9);
        due("days(0)", x.days(0), BEYOND);
        due("days(61)", x.days(61), BEYOND);
        due("days(-1)", x.days(-1), BEYOND);
        due("now(0)", x.now(0), 5);
        for (int w : WILD) {
            due("days(" + w + ")", x.days(w), BEYOND);
        }
    }

    private static void daysEnd() {
        begin(16);
        for (int i = 0; i < 166; i++) {
            x.days(60);
        }
        due("now(0)", x.now(0), 9960);
        due("days(40)", x.days(40), STATE);
        due("days(61): BEYOND is asked first", x.days(61), BEYOND);
        due("days(38)", x.days(38), 0);
        due("days(2)", x.days(2), STATE);
        due("days(1)", x.days(1), 0);
        due("now(0)", x.now(0), 9999);
        due("days(1)", x.days(1), STATE);
        // Day 9999 is the third of its week: rain comes in the day after.
        x.carpet(0, 0);
        x.roll(0, 0);
        due("on(0, 1, 0): days go on beyond the last", x.on(0, 1, 0), 50 - (9999 % 7 == 3 ? 3 : 1));
        due("on(0, 7, 0)", x.on(0, 7, 0), 41);
        due("ends(0)", x.ends(0), endOfFifty(9999));
    }

    /** In how many days fifty of a plain carpet are worn off in the first weather. */
    private static int endOfFifty(int day) {
        int pile = 50;
        int n = 0;
        while (pile > 0) {
            pile -= (day + n) % 7 == 3 ? 3 : 1;
            n++;
        }
        return n;
    }

    private static void on() {
        beginWithAll(17);
        x.roll(0, 7);
        due("on(0, 0, 0)", x.on(0, 0, 0), 50);
        due("on(0, 0, 2)", x.on(0, 0, 2), 7);
        due("on(0, 7, 0)", x.on(0, 7, 0), 41);
        due("on(0, 38, 0)", x.on(0, 38, 0), 2);
        due("on(0, 38, 2)", x.on(0, 38, 2), 7);
        due("on(0, 39, 0)", x.on(0, 39, 0), 0);
        due("on(0, 39, 2)", x.on(0, 39, 2), -1);
        due("on(0, 39, 1)", x.on(0, 39, 1), 0);
        due("on(0, 41, 1)", x.on(0, 41, 1), 2);
        due("on(0, 200, 1)", x.on(0, 200, 1), 9);
        due("on(1, 3, 1)", x.on(1, 3, 1), 3);
        due("on(1, 3, 0)", x.on(1, 3, 0), 49);
        due("now(0): nothing changes", x.now(0), 0);
        due("of(0, 3): nothing changes", x.of(0, 3), 50);
        due("of(1, 4): nothing changes", x.of(1, 4), 0);
        due("on(6, 0, 0)", x.on(6, 0, 0), BEYOND);
        due("on(-1, 0, 0)", x.on(-1, 0, 0), BEYOND);
        due("on(0, -1, 0)", x.on(0, -1, 0), BEYOND);
        due("on(0, 201, 0)", x.on(0, 201, 0), BEYOND);
        due("on(0, 0, -1)", x.on(0, 0, -1), BEYOND);
        due("on(0, 0, 3)", x.on(0, 0, 3), BEYOND);
        for (int w : WILD) {
            due("on(" + w + ", 0, 0)", x.on(w, 0, 0), BEYOND);
            due("on(0, " + w + ", 0)", x.on(0, w, 0), BEYOND);
            due("on(0, 0, " + w + ")", x.on(0, 0, w), BEYOND);
        }
    }

    private static void ownsOn() {
        beginWithAll(18);
        x.roll(0, 0);
        x.roll(5, 20);
        x.set(5, 3, 21);
        due("ownsOn(1, 0)", x.ownsOn(1, 0), 8);
        due("ownsOn(1, 3)", x.ownsOn(1, 3), 8);
        due("ownsOn(1, 4): a thin shag is short", x.ownsOn(1, 4), 4);
        due("ownsOn(-1, 4)", x.ownsOn(-1, 4), 28);
        due("ownsOn(0, 38)", x.ownsOn(0, 38), 8);
        due("ownsOn(0, 39)", x.ownsOn(0, 39), 0);
        due("ownsOn(-1, 200)", x.ownsOn(-1, 200), 40);
        due("owns(0): nothing changes", x.owns(0), 8);
        due("now(0): nothing changes", x.now(0), 0);
        due("ownsOn(-2, 0)", x.ownsOn(-2, 0), BEYOND);
        due("ownsOn(4, 0)", x.ownsOn(4, 0), BEYOND);
        due("ownsOn(0, -1)", x.ownsOn(0, -1), BEYOND);
        due("ownsOn(0, 201)", x.ownsOn(0, 201), BEYOND);
        for (int w : WILD) {
            due("ownsOn(" + w + ", 0)", x.ownsOn(w, 0), BEYOND);
            due("ownsOn(0, " + w + ")", x.ownsOn(0, w), BEYOND);
        }
    }

    private static void ends() {
        beginWithAll(19);
        due("ends(0) of one that is rolled up", x.ends(0), 0);
        for (int c = 0; c < 6; c++) {
            x.roll(c, c);
        }
        due("ends(0)", x.ends(0), 39);
        // Runner: 16 a week, so 2 are left after three weeks.
        due("ends(1)", x.ends(1), 22);
        due("ends(2)", x.ends(2), 347);
        due("ends(3)", x.ends(3), NONE);
        due("ends(5)", x.ends(5), 172);
        x.set(2, 3, 57);
        due("ends(2) within the search", x.ends(2), 396);
        x.set(2, 3, 58);
        due("ends(2) beyond the search", x.ends(2), NONE);
        x.days(3);
        due("ends(2): day 400 counts", x.ends(2), 400);
        x.days(6);
        x.set(2, 3, 58);
        due("ends(2): day 401 doesn't", x.ends(2), NONE);
        due("ends(6)", x.ends(6), BEYOND);
        due("ends(-1)", x.ends(-1), BEYOND);
        for (int w : WILD) {
            due("ends(" + w + ")", x.ends(w), BEYOND);
        }
    }

    private static void bare() {
        beginWithAll(20);
        // Rolled up, a carpet has 0 0 1 1 1 2 2 2 less, then 3 a day: 9 in eight days, 41 more in fourteen.
        due("bare(0)", x.bare(0), 22);
        due("bare(3)", x.bare(3), NONE);
        x.set(3, 3, 0);
        due("bare(3) of a bare one", x.bare(3), 0);
        x.roll(0, 0);
        due("bare(0) of one that lies", x.bare(0), 39);
        x.roll(2, 0);
        x.set(2, 3, 58);
        due("bare(2)", x.bare(2), NONE);
        x.days(3);
        due("bare(2): day 400 counts", x.bare(2), 400);
        due("bare(6)", x.bare(6), BEYOND);
        due("bare(-1)", x.bare(-1), BEYOND);
        for (int w : WILD) {
            due("bare(" + w + ")", x.bare(w), BEYOND);
        }
    }

    private static void changes() {
        beginWithAll(21);
        x.roll(0, 0);
        x.roll(1, 4);
        due("changes(0)", x.changes(0), 39);
        due("changes(4): what lies under it comes up", x.changes(4), 22);
        due("changes(10)", x.changes(10), 22);
        due("changes(39)", x.changes(39), NONE);
        x.set(1, 1, 0);
        due("changes(4): the same realm lies under it", x.changes(4), 39);
        x.roll(5, 30);
        x.set(5, 3, 21);
        due("changes(33)", x.changes(33), 74);
        due("changes(34): a thin shag is short", x.changes(34), 4);
        x.roll(2, 38);
        x.set(2, 3, 58);
        due("changes(38)", x.changes(38), NONE);
        x.days(3);
        due("changes(38): day 400 counts", x.changes(38), 400);
        due("changes(-1)", x.changes(-1), BEYOND);
        due("changes(40)", x.changes(40), BEYOND);
        for (int w : WILD) {
            due("changes(" + w + ")", x.changes(w), BEYOND);
        }
    }

    private static void whatIsBest() {
        best();
        take();
        kind();
        enough();
        weather();
        fewest();
    }

    private static void best() {
        beginWithAll(22);
        due("best(0, 0) on an empty street", x.best(0, 0), 0);
        x.roll(4, 3);
        due("best(0, 0): beside one's own", x.best(0, 0), 16);
        due("best(0, 30): the stair is through by then", x.best(0, 30), 0);
        due("best(0, 60): it is through itself", x.best(0, 60), 0);
        due("best(1, 0)", x.best(1, 0), 0);
        due("best(4, 0): it lies elsewhere then", x.best(4, 0), 0);
        due("of(0, 5): nothing changes", x.of(0, 5), -1);
        due("now(2): nothing changes", x.now(2), 1);
        x.set(0, 3, 0);
        due("best(0, 0)", x.best(0, 0), STATE);
        due("best(0, 61): BEYOND is asked first", x.best(0, 61), BEYOND);
        due("best(0, -1)", x.best(0, -1), BEYOND);
        due("best(6, 0)", x.best(6, 0), BEYOND);
        due("best(-1, 0)", x.best(-1, 0), BEYOND);
        for (int w : WILD) {
            due("best(" + w + ", 0)", x.best(w, 0), BEYOND);
            due("best(1, " + w + ")", x.best(1, w), BEYOND);
        }
    }

    private static void take() {
        beginWithAll(23);
        due("take(0, 0)", x.take(0, 0), NONE);
        x.roll(0, 0);
        x.roll(3, 2);
        x.roll(1, 6);
        due("take(0, 0): of two by which it has two more the least", x.take(0, 0), 1);
        x.roll(3, 0);
        due("take(0, 0)", x.take(0, 0), 1);
        x.roll(1, 7);
        due("take(0, 0)", x.take(0, 0), 3);
        due("take(0, 30): the runner is through by then", x.take(0, 30), 3);
        due("take(2, 0): all the same", x.take(2, 0), 0);
        due("take(1, 0): not its own", x.take(1, 0), 0);
        due("take(0, 60): a carpet that will be through may be taken", x.take(0, 60), 0);
        due("now(3): nothing changes", x.now(3), 11);
        due("take(-1, 0)", x.take(-1, 0), BEYOND);
        due("take(4, 0)", x.take(4, 0), BEYOND);
        due("take(0, -1)", x.take(0, -1), BEYOND);
        due("take(0, 61)", x.take(0, 61), BEYOND);
        begin(23);
        due("take(4, 0): BEYOND is asked first", x.take(4, 0), BEYOND);
        for (int w : WILD) {
            due("take(" + w + ", 0)", x.take(w, 0), BEYOND);
            due("take(0, " + w + ")", x.take(0, w), BEYOND);
        }
    }

    private static void kind() {
        beginWithAll(24);
        due("kind(5) of one that is rolled up", x.kind(5), 0);
        x.roll(5, 0);
        due("kind(5): a mat isn't through at all", x.kind(5), 3);
        x.set(5, 3, 58);
        due("kind(5): neither is a good velvet within the days, and it is less", x.kind(5), 2);
        x.set(5, 3, 0);
        due("kind(5): all are through in a day", x.kind(5), 0);
        x.rain(3, 0);
        x.set(5, 3, 1);
        due("kind(5): a velvet never wears in dry weather", x.kind(5), 2);
        due("of(5, 0): nothing changes", x.of(5, 0), 5);
        due("kind(6)", x.kind(6), BEYOND);
        due("kind(-1)", x.kind(-1), BEYOND);
        for (int w : WILD) {
            due("kind(" + w + ")", x.kind(w), BEYOND);
        }
    }

    private static void enough() {
        beginWithAll(25);
        due("enough(0, 1) of one that is rolled up", x.enough(0, 1), NONE);
        for (int c = 0; c < 6; c++) {
            x.roll(c, 0);
        }
        due("enough(0, 1)", x.enough(0, 1), 2);
        due("enough(0, 4)", x.enough(0, 4), 7);
        due("enough(0, 60)", x.enough(0, 60), 79);
        due("enough(1, 43)", x.enough(1, 43), 99);
        due("enough(1, 44)", x.enough(1, 44), NONE);
        due("enough(2, 3)", x.enough(2, 3), 1);
        due("enough(2, 4)", x.enough(2, 4), 2);
        due("enough(3, 60)", x.enough(3, 60), 1);
        x.set(4, 4, 9);
        due("enough(4, 8)", x.enough(4, 8), 91);
        due("enough(4, 9)", x.enough(4, 9), NONE);
        due("of(0, 3): nothing changes", x.of(0, 3), 50);
        due("enough(0, 0)", x.enough(0, 0), BEYOND);
        due("enough(0, 61)", x.enough(0, 61), BEYOND);
        due("enough(6, 1)", x.enough(6, 1), BEYOND);
        due("enough(-1, 1)", x.enough(-1, 1), BEYOND);
        for (int w : WILD) {
            due("enough(" + w + ", 1)", x.enough(w, 1), BEYOND);
            due("enough(0, " + w + ")", x.enough(0, w), BEYOND);
        }
    }

    private static void weather() {
        begin(26);
        due("weather(60) without carpets", x.weather(60), 0);
        x.carpet(0, 0);
        x.roll(0, 0);
        due("weather(3): the least of those that don't come", x.weather(3), 3);
        due("weather(4): no rain on the last day", x.weather(4), 3);
        x.rain(3, 0);
        due("weather(3)", x.weather(3), 3);
        due("weather(6): the one that doesn't come", x.weather(6), 6);
        due("weather(7): all the same", x.weather(7), 0);
        x.rain(5, 1);
        due("weather(14)", x.weather(14), 5);
        due("weather(60): it is through in any weather", x.weather(60), 0);
        due("rain(5, 0): nothing changes", x.rain(5, 0), 1);
        due("rain(0, 0): nothing changes", x.rain(0, 0), 0);
        due("now(0): nothing changes", x.now(0), 0);
        x.days(2);
        x.rain(2, 1);
        due("weather(1): the week's place, not how many days on", x.weather(1), 2);
        due("weather(0)", x.weather(0), BEYOND);
        due("weather(61)", x.weather(61), BEYOND);
        for (int w : WILD) {
            due("weather(" + w + ")", x.weather(w), BEYOND);
        }
        begin(26);
        x.carpet(5, 1);
        x.rain(0, 1);
        // A shag that is rolled up has no young moths in rain: 0 2 and none eaten; dry 2 4 and one eaten.
        due("weather(2): the least but the one by which it is eaten", x.weather(2), 1);
        x.rain(0, 0);
        due("weather(1): two moths don't eat yet", x.weather(1), 0);
    }

    private static void fewest() {
        beginWithAll(27);
        due("fewest(0, 0)", x.fewest(0, 0), 0);
        due("fewest(0, 1)", x.fewest(0, 1), NONE);
        x.roll(0, 0);
        x.roll(3, 0);
        x.roll(1, 4);
        x.roll(2, 4);
        due("fewest(0, 2)", x.fewest(0, 2), 0);
        due("fewest(0, 3)", x.fewest(0, 3), 8);
        due("fewest(0, 5)", x.fewest(0, 5), 6);
        due("fewest(0, 7)", x.fewest(0, 7), 14);
        due("fewest(0, 8)", x.fewest(0, 8), 14);
        due("fewest(0, 9)", x.fewest(0, 9), NONE);
        due("fewest(1, 16)", x.fewest(1, 16), 4);
        due("fewest(1, 8)", x.fewest(1, 8), 0);
        due("fewest(0, 40)", x.fewest(0, 40), NONE);
        due("now(3): nothing changes", x.now(3), 15);
        x.roll(5, 0);
        x.roll(4, 2);
        due("fewest(3, 1): of several the least", x.fewest(3, 1), 32);
        due("fewest(3, 2)", x.fewest(3, 2), 32);
        due("fewest(-1, 0)", x.fewest(-1, 0), BEYOND);
        due("fewest(4, 0)", x.fewest(4, 0), BEYOND);
        due("fewest(0, -1)", x.fewest(0, -1), BEYOND);
        due("fewest(0, 41)", x.fewest(0, 41), BEYOND);
        for (int w : WILD) {
            due("fewest(" + w + ", 0)", x.fewest(w, 0), BEYOND);
            due("fewest(0, " + w + ")", x.fewest(0, w), BEYOND);
        }
        begin(27);
        x.carpet(3, 0);
        x.carpet(3, 1);
        x.carpet(3, 2);
        x.roll(0, 0);
        x.roll(1, 1);
        x.roll(2, 39);
        due("fewest(0, 2): by one", x.fewest(0, 2), 2);
        x.carpet(3, 1);
        x.carpet(3, 0);
        x.roll(4, 10);
        x.roll(3, 11);
        due("fewest(0, 3): two ways by one, the least", x.fewest(0, 3), 2);
        due("fewest(0, 4)", x.fewest(0, 4), 10);
        begin(27);
        for (int c = 0; c < 8; c++) {
            x.carpet(0, c == 7 ? 3 : c % 3);
        }
        for (int c = 7; c >= 0; c--) {
            x.roll(c, 32);
        }
        due("yard(39, 2)", x.yard(39, 2), 255);
        due("fewest(3, 1): all but the lowest", x.fewest(3, 1), 127);
        due("fewest(3, 8)", x.fewest(3, 8), 127);
        due("fewest(3, 9)", x.fewest(3, 9), NONE);
        due("take(0, 0)", x.take(0, 0), 1);
        due("days(38)", x.days(38), 255);
        due("days(1)", x.days(1), 0);
    }

    private static void text() {
        feeding();
        wiping();
        palaces();
        faults();
        ninth();
    }

    private static void feeding() {
        begin(28);
        due("feed(.., 0)", x.feed(0, 0), BEYOND);
        due("feed(.., 5)", x.feed(0, 5), BEYOND);
        due("feed(.., -1)", x.feed(0, -1), BEYOND);
        for (int w : WILD) {
            due("feed(.., " + w + ")", x.feed(0, w), BEYOND);
        }
        due("feed(\"mat \", 4)", x.feed(0x6d617420, 4), 4);
        due("feed(\"??3;\", 2)", x.feed(0x3f3f333b, 2), 6);
        due("feed(\"?dry\", 3)", x.feed(0x3f647279, 3), 9);
        due("feed(\"???3\", 1)", x.feed(0x3f3f3f33, 1), 10);
        due("palace()", x.palace(), 2);
        due("of(0, 1)", x.of(0, 1), 3);
        due("rain(3, 1)", x.rain(3, 1), 0);
        for (int i = 1; i <= 29; i++) {
            due("feed(\"    \", 4)", x.feed(0x20202020, 4), 4 * i);
        }
        due("feed(.., 1)", x.feed(' ', 1), 117);
        due("feed(.., 4): it isn't cut", x.feed(0x20202020, 4), FULL);
        due("feed(.., 5): BEYOND is asked first", x.feed(0, 5), BEYOND);
        due("count(1)", x.count(1), 117);
        due("feed(.., 3)", x.feed(0x202020, 3), 120);
        due("feed(.., 1)", x.feed(' ', 1), FULL);
        due("palace() of blanks alone", x.palace(), -121);
        due("feed(-1, 4): bytes of 255", x.feed(-1, 4), 4);
        due("palace()", x.palace(), -1);
    }

    private static void wiping() {
        begin(29);
        due("wipe()", x.wipe(), 0);
        feed("mat 0");
        due("wipe()", x.wipe(), 5);
        due("wipe()", x.wipe(), 0);
        due("count(1)", x.count(1), 0);
        dueText("rain 0", 1);
        due("count(0)", x.count(0), 0);
    }

    private static void palaces() {
        begin(30);
        dueText("carpet 0 long 20 pile 99 from 39; runner 1 long 1 pile 1 from 0", 2);
        due("count(1): the tape is empty then", x.count(1), 0);
        due("of(0, 0)", x.of(0, 0), 0);
        due("of(0, 1)", x.of(0, 1), 0);
        due("of(0, 2)", x.of(0, 2), 20);
        due("of(0, 3)", x.of(0, 3), 99);
        due("of(0, 5)", x.of(0, 5), 39);
        due("of(1, 0)", x.of(1, 0), 1);
        due("of(1, 1)", x.of(1, 1), 1);
        due("of(1, 2)", x.of(1, 2), 1);
        due("of(1, 3)", x.of(1, 3), 1);
        due("of(1, 5)", x.of(1, 5), 0);
        due("now(2)", x.now(2), 2);
        dueText("velvet2;mat3pile7;stair 0from5;shag 1 long 3", 4);
        due("of(2, 0)", x.of(2, 0), 2);
        due("of(2, 2)", x.of(2, 2), 8);
        due("of(2, 3)", x.of(2, 3), 50);
        due("of(2, 5)", x.of(2, 5), -1);
        due("of(3, 0)", x.of(3, 0), 3);
        due("of(3, 3)", x.of(3, 3), 7);
        due("of(4, 0)", x.of(4, 0), 4);
        due("of(4, 5)", x.of(4, 5), 5);
        due("of(5, 0)", x.of(5, 0), 5);
        due("of(5, 2)", x.of(5, 2), 3);
        dueText("rain 0 ; dry 3;rain 6; dry 6", 4);
        due("rain(0, 0)", x.rain(0, 0), 1);
        due("rain(3, 0)", x.rain(3, 0), 0);
        due("rain(6, 0)", x.rain(6, 0), 0);
        dueText("  up 4  ", 1);
        due("of(4, 5)", x.of(4, 5), -1);
        dueText("mat 0 from 3; up 6; mat 1 from 3; up 7", 4);
        due("now(3)", x.now(3), 3);
        due("now(2)", x.now(2), 5);
        begin(30);
        dueText("mat 000003 long 00002 pile 0000000000000007", 1);
        due("of(0, 1)", x.of(0, 1), 3);
        due("of(0, 3)", x.of(0, 3), 7);
        dueText("mat 1 pile 0 from 4", 1);
        due("of(1, 5): a text rolls out one without pile, too", x.of(1, 5), 4);
        due("of(1, 3)", x.of(1, 3), 0);
        due("status(-1)", x.status(-1), 0);
    }

    private static void faults() {
        begin(30);
        dueText("", -1);
        dueText("   ", -4);
        dueText(";", -1);
        dueText("mat 0;", -7);
        dueText("mat 0; ", -8);
        dueText("mat 0;;", -7);
        dueText("mat", -4);
        dueText(" mat  ", -7);
        dueText("mat 4", -5);
        dueText("mat x", -5);
        dueText("mat ;", -5);
        dueText("matt 0", -1);
        dueText("ma 0", -1);
        dueText("xat 0", -1);
        dueText("matz 0", -1);
        dueText("amat 0", -1);
        dueText("mat`0", -4);
        dueText("mat{0", -4);
        dueText("mat/0", -4);
        dueText("mat:0", -4);
        dueText("Mat 0", -1);
        dueText("mat 0 Long 3", -7);
        dueText("3", -1);
        dueText("mat 0 long", -11);
        dueText("mat 0 long 0", -12);
        dueText("mat 0 long 21", -12);
        dueText("mat 0 long 3 long 3", -14);
        dueText("mat 0 pile 100", -12);
        dueText("mat 0 pile 1000", -12);
        dueText("mat 0 pile 4294967296", -12);
        dueText("mat 0 pile 18446744073709551617", -12);
        dueText("mat 0 pile 3 long 3", -14);
        dueText("mat 0 from 3 pile 3", -14);
        dueText("mat 0 from 40", -12);
        dueText("mat 0 from", -11);
        dueText("mat 0 from;", -11);
        dueText("mat 0 mat 0", -7);
        dueText("mat 0 3", -7);
        dueText("mat 0\tlong 3", -6);
        dueText("mat 0,", -6);
        dueText("mat 0\n", -6);
        dueText("mat-1", -4);
        dueText("up", -3);
        dueText("up 0", -4);
        dueText("mat 0; up 0", -11);
        dueText("mat 0 from 0; up 0; up 0", -24);
        dueText("mat 0 from 0; up 1", -18);
        dueText("rain 7", -6);
        dueText("dry 7", -5);
        dueText("dry", -4);
        dueText("rain 0 0", -8);
        dueText("rain 0; snow 0", -9);
        due("count(0): nothing came", x.count(0), 0);
        due("now(2): nothing came", x.now(2), 0);
        due("rain(0, 0): nothing came", x.rain(0, 0), 0);
        due("count(1): the tape is empty", x.count(1), 0);
        due("status(-1): a fault is no finding", x.status(-1), 0);
    }

    private static void ninth() {
        begin(30);
        dueText("mat 0;mat 1;mat 2;mat 3;mat 0;mat 1;mat 2", 7);
        dueText("mat 3 from 0; shag 0", -15);
        due("count(0)", x.count(0), 7);
        dueText("mat 3 from 0; up 7", 2);
        due("count(0)", x.count(0), 8);
        dueText("shag 9", -1);
        dueText("up 8", -4);
        dueText("rain 1;  stair", -10);
        due("rain(1, 0)", x.rain(1, 0), 0);
        dueText("rain 1", 1);
        begin(30);
        feed("dry 3;dry 3;dry 3;dry 3;dry 3;dry 3;dry 3;dry 3;dry 3;dry 3;");
        feed("dry 3;dry 3;dry 3;dry 3;dry 3;dry 3;dry 3;dry 3;dry 3;dry 30");
        due("palace() of a full tape", x.palace(), -119);
        feed("dry3;dry3;dry3;dry3;dry3;dry3;dry3;dry3;dry3;dry3;dry3;dry3;");
        feed("dry3;dry3;dry3;dry3;dry3;dry3;dry3;dry3;dry3;dry3;dry3;rain0");
        due("palace() of a full tape", x.palace(), 24);
        due("rain(3, 0)", x.rain(3, 0), 0);
        due("rain(0, 0)", x.rain(0, 0), 1);
    }

    private static void sheets() {
        sheet();
        write();
        copy();
        lays();
        book();
        read();
    }

    private static void sheet() {
        begin(31);
        due("sheet(-1, 8, 1)", x.sheet(-1, 8, 1), BEYOND);
        due("sheet(4, 8, 1)", x.sheet(4, 8, 1), BEYOND);
        due("sheet(0, 32, 1)", x.sheet(0, 32, 1), BEYOND);
        due("sheet(0, 1, 1)", x.sheet(0, 1, 1), BEYOND);
        due("sheet(0, -8, 1)", x.sheet(0, -8, 1), BEYOND);
        due("sheet(0, 8, -1)", x.sheet(0, 8, -1), SIZE);
        due("sheet(0, 8, MIN)", x.sheet(0, 8, Integer.MIN_VALUE), SIZE);
        due("sheet(0, 8, 41)", x.sheet(0, 8, 41), BEYOND);
        due("sheet(0, 8, MAX)", x.sheet(0, 8, Integer.MAX_VALUE), BEYOND);
        due("sheet(0, 0, -1)", x.sheet(0, 0, -1), SIZE);
        due("sheet(0, 0, 41)", x.sheet(0, 0, 41), BEYOND);
        due("sheet(4, 8, -1): BEYOND is asked first", x.sheet(4, 8, -1), BEYOND);
        due("sheet(0, 7, -1): BEYOND is asked first", x.sheet(0, 7, -1), BEYOND);
        due("write: none was made", x.write(0, 0, 0L), MISSING);
        due("sheet(3, 64, 40)", x.sheet(3, 64, 40), 40);
        due("sheet(0, 16, 0)", x.sheet(0, 16, 0), 0);
        due("write to one without numbers", x.write(0, 0, 0L), BEYOND);
        due("write(3, 39, 5)", x.write(3, 39, 5L), 0);
        due("sheet(3, 64, 40) anew", x.sheet(3, 64, 40), 40);
        due("write(3, 39, 5): all are 0 anew", x.write(3, 39, 5L), 0);
        due("write(3, 0, 6)", x.write(3, 0, 6L), 0);
        due("sheet(2, 8, 1)", x.sheet(2, 8, 1), 1);
        due("write(2, 0, 6)", x.write(2, 0, 6L), 0);
        due("sheet(2, 16, 2)", x.sheet(2, 16, 2), 2);
        due("write(2, 0, 6): all are 0 anew", x.write(2, 0, 6L), 0);
        due("sheet(3, 8, 41)", x.sheet(3, 8, 41), BEYOND);
        due("write(3, 39, 5): a wrong one changes nothing", x.write(3, 39, 5L), 5);
        due("sheet(3, 0, 40)", x.sheet(3, 0, 40), 0);
        due("write(3, 0, 0)", x.write(3, 0, 0L), MISSING);
        for (int w : WILD) {
            due("sheet(" + w + ", 8, 1)", x.sheet(w, 8, 1), BEYOND);
            due("sheet(0, " + w + ", 1)", x.sheet(0, w, 1), BEYOND);
        }
    }

    private static void write() {
        begin(32);
        due("write(-1, 0, 0)", x.write(-1, 0, 0L), BEYOND);
        due("write(4, 0, 0)", x.write(4, 0, 0L), BEYOND);
        due("write(0, -1, 0): MISSING is asked first", x.write(0, -1, 0L), MISSING);
        x.sheet(0, 8, 3);
        x.sheet(1, 16, 3);
        x.sheet(2, 64, 3);
        due("write(0, 3, 0)", x.write(0, 3, 0L), BEYOND);
        due("write(0, -1, 0)", x.write(0, -1, 0L), BEYOND);
        due("write(0, 2, 100)", x.write(0, 2, 100L), 0);
        due("write(0, 2, 0)", x.write(0, 2, 0L), 100);
        due("write(0, 1, 0): its own place alone", x.write(0, 1, 0L), 0);
        long[] lows = {127, 128, 255, 256, 32767, 32768, 65535, 65536, -1, -129, Long.MIN_VALUE, Long.MAX_VALUE, BEYOND};
        for (long v : lows) {
            x.write(0, 0, v);
            x.write(1, 0, v);
            x.write(2, 0, v);
            due("8 bits of " + v, x.write(0, 0, 0L), (byte) v);
            due("16 bits of " + v, x.write(1, 0, 0L), (short) v);
            due("64 bits of " + v, x.write(2, 0, 0L), v);
        }
        due("status(0): a number that looks like a finding is none", x.status(0), 4);
        for (int w : WILD) {
            due("write(" + w + ", 0, 0)", x.write(w, 0, 0L), BEYOND);
            due("write(0, " + w + ", 0)", x.write(0, w, 0L), BEYOND);
        }
    }

    private static void dueRow(int s, long... want) {
        for (int i = 0; i < want.length; i++) {
            due("number " + i + " of sheet " + s, x.write(s, i, want[i]), want[i]);
        }
    }

    private static void copy() {
        begin(33);
        due("copy from none", x.copy(0, 0, 1, 0, 0), MISSING);
        x.sheet(0, 8, 5);
        due("copy to none", x.copy(0, 0, 1, 0, 0), MISSING);
        due("copy from none", x.copy(1, 0, 0, 0, 0), MISSING);
        x.sheet(1, 8, 3);
        x.sheet(2, 16, 5);
        due("copy(4, ..)", x.copy(4, 0, 0, 0, 0), BEYOND);
        due("copy(-1, ..)", x.copy(-1, 0, 0, 0, 0), BEYOND);
        due("copy(.., 4, ..): before MISSING", x.copy(3, 0, 4, 0, 0), BEYOND);
        due("copy(.., -1, ..)", x.copy(0, 0, -1, 0, 0), BEYOND);
        due("MISSING is asked before what is copied", x.copy(0, -1, 3, 0, 99), MISSING);
        due("KIND is asked before what is copied", x.copy(0, -1, 2, 0, 99), KIND);
        due("copy of other bits", x.copy(0, 0, 2, 0, 0), KIND);
        for (int i = 0; i < 5; i++) {
            x.write(0, i, 10 + i);
        }
        due("copy(0, 1, 1, 0, 3)", x.copy(0, 1, 1, 0, 3), 3);
        dueRow(1, 11, 12, 13);
        due("copy up within one", x.copy(0, 0, 0, 1, 4), 4);
        dueRow(0, 10, 10, 11, 12, 13);
        due("copy down within one", x.copy(0, 2, 0, 0, 3), 3);
        dueRow(0, 11, 12, 13, 12, 13);
        due("copy of none at the end", x.copy(0, 5, 1, 3, 0), 0);
        due("copy from above", x.copy(0, 6, 1, 0, 0), BEYOND);
        due("copy to above", x.copy(0, 0, 1, 4, 0), BEYOND);
        due("copy of too many", x.copy(0, 2, 1, 0, 4), BEYOND);
        due("copy to too few", x.copy(0, 0, 1, 1, 3), BEYOND);
        due("copy from below", x.copy(0, -1, 1, 0, 1), BEYOND);
        due("copy to below", x.copy(0, 0, 1, -1, 1), BEYOND);
        due("copy of less than none", x.copy(0, 1, 1, 1, -1), BEYOND);
        int max = Integer.MAX_VALUE;
        due("copy whose sums wrap around", x.copy(0, max, 1, 0, max), BEYOND);
        due("copy whose sums wrap around", x.copy(0, 0, 1, max, max), BEYOND);
        due("copy whose sums wrap around", x.copy(0, 1, 1, 1, max), BEYOND);
        dueRow(0, 11, 12, 13, 12, 13);
        dueRow(1, 11, 12, 13);
        for (int w : WILD) {
            due("copy(" + w + ", ..)", x.copy(w, 0, 0, 0, 0), BEYOND);
            due("copy(0, " + w + ", ..)", x.copy(0, w, 0, 0, 0), BEYOND);
            due("copy(0, 0, " + w + ", ..)", x.copy(0, 0, w, 0, 0), BEYOND);
            due("copy(0, 0, 0, " + w + ", ..)", x.copy(0, 0, 0, w, 0), BEYOND);
            due("copy(0, 0, 0, 0, " + w + ")", x.copy(0, 0, 0, 0, w), BEYOND);
        }
    }

    private static void lays() {
        beginWithAll(34);
        due("lays(4)", x.lays(4), BEYOND);
        due("lays(-1)", x.lays(-1), BEYOND);
        due("lays(0)", x.lays(0), MISSING);
        x.sheet(0, 64, 8);
        long[] row = {0, 99, 100, -1, 1L << 32, 7, 8, 9};
        for (int i = 0; i < row.length; i++) {
            x.write(0, i, row[i]);
        }
        x.roll(0, 5);
        due("lays(0)", x.lays(0), 3);
        dueOfAll(3, 0, 99, 50, 50, 50, 7);
        due("of(0, 5): it lies still", x.of(0, 5), 5);
        x.sheet(1, 8, 2);
        due("lays(1): a shorter one", x.lays(1), 2);
        dueOfAll(3, 0, 0, 50, 50, 50, 7);
        x.sheet(1, 8, 0);
        due("lays(1) of none", x.lays(1), 0);
        for (int w : WILD) {
            due("lays(" + w + ")", x.lays(w), BEYOND);
        }
    }

    private static void book() {
        beginWithAll(35);
        due("book(4, 0)", x.book(4, 0), BEYOND);
        due("book(-1, 0)", x.book(-1, 0), BEYOND);
        due("book(0, 9): MISSING is asked first", x.book(0, 9), MISSING);
        x.sheet(0, 16, 9);
        due("book(0, 6)", x.book(0, 6), BEYOND);
        due("book(0, -1)", x.book(0, -1), BEYOND);
        x.roll(0, 0);
        due("book(0, 0)", x.book(0, 0), 9);
        dueRow(0, 50, 49, 48, 47, 44, 43, 42, 41, 40);
        due("book(0, 2) of one that is rolled up", x.book(0, 2), 9);
        dueRow(0, 50, 50, 49, 47, 45, 42, 39, 36, 33);
        due("now(0): nothing else changes", x.now(0), 0);
        due("of(0, 3): nothing else changes", x.of(0, 3), 50);
        x.sheet(1, 8, 0);
        due("book(1, 0)", x.book(1, 0), 0);
        for (int w : WILD) {
            due("book(" + w + ", 0)", x.book(w, 0), BEYOND);
            due("book(0, " + w + ")", x.book(0, w), BEYOND);
        }
    }

    private static void read() {
        beginWithAll(36);
        due("read(4, 0)", x.read(4, 0), BEYOND);
        due("read(-1, 0)", x.read(-1, 0), BEYOND);
        due("read(0, 9): MISSING is asked first", x.read(0, 9), MISSING);
        x.sheet(0, 8, 0);
        due("read(0, 6)", x.read(0, 6), BEYOND);
        due("read(0, -1)", x.read(0, -1), BEYOND);
        due("read(0, 0) of nothing", x.read(0, 0), 60);
        x.sheet(0, 8, 1);
        due("read(0, 0) of another pile", x.read(0, 0), 0);
        x.write(0, 0, 50L);
        due("read(0, 0) of the pile alone", x.read(0, 0), 60);
        x.roll(0, 0);
        x.sheet(0, 64, 5);
        x.book(0, 0);
        due("read(0, 0): a carpet with any moths", x.read(0, 0), 10);
        x.turn(0, 1);
        x.book(0, 0);
        due("read(0, 0): a runner, or a stair without moths", x.read(0, 0), 11);
        x.turn(0, 4);
        x.set(0, 4, 3);
        x.book(0, 0);
        due("read(0, 0): a stair with three", x.read(0, 0), 1);
        x.write(0, 0, 50L + (1L << 32));
        due("read(0, 0): all bits count", x.read(0, 0), 0);
        x.turn(0, 2);
        x.sheet(0, 8, 4);
        x.book(0, 0);
        due("read(0, 0): velvet, mat or shag till the rain", x.read(0, 0), 30);
        x.sheet(0, 8, 5);
        x.book(0, 0);
        due("read(0, 0): velvet", x.read(0, 0), 10);
        x.up(0);
        x.sheet(0, 8, 2);
        x.write(0, 0, 50L);
        x.write(0, 1, 50L);
        // None less: moths 0 1 in carpet, runner and stair, 0 in velvet and shag, 0 1 2 in a mat.
        due("read(0, 0) of one that is rolled up", x.read(0, 0), 3 * 2 + 2 + 3);
        due("of(0, 0): nothing changes", x.of(0, 0), 2);
        due("of(0, 4): nothing changes", x.of(0, 4), 3);
        for (int w : WILD) {
            due("read(" + w + ", 0)", x.read(w, 0), BEYOND);
            due("read(0, " + w + ")", x.read(0, w), BEYOND);
        }
    }

    private static void images() {
        imageAndUndo();
        tear();
        count();
        status();
    }

    private static void imageAndUndo() {
        beginWithAll(37);
        x.roll(1, 5);
        x.roll(2, 9);
        x.set(1, 2, 4);
        x.set(1, 3, 44);
        x.set(3, 4, 6);
        x.rain(0, 1);
        x.days(2);
        feed("mat");
        x.sheet(0, 8, 2);
        due("image()", x.image(), 1);
        String then = look();
        x.days(9);
        x.carpet(0, 0);
        x.turn(1, 0);
        x.set(1, 1, 3);
        x.set(1, 2, 5);
        x.roll(1, 30);
        x.up(2);
        x.beat(3);
        x.rain(0, 0);
        x.rain(6, 1);
        x.write(0, 1, 9L);
        feed(" 0");
        promise = 38;
        due("undo()", x.undo(), 6);
        due("all is as it was", look().equals(then) ? 1 : 0, 1);
        due("count(1): but the tape", x.count(1), 5);
        due("write(0, 1, 0): but the sheets", x.write(0, 1, 0L), 9);
        x.roll(1, 0);
        x.roll(2, 0);
        due("yard(0, 1)", x.yard(0, 1), 2);
        due("undo() again: it stays", x.undo(), 6);
        due("all is as it was", look().equals(then) ? 1 : 0, 1);
        x.carpet(5, 1);
        due("image() anew", x.image(), 1);
        x.carpet(5, 1);
        due("undo() to the latest", x.undo(), 7);
        x.carpet(5, 1);
        x.set(7, 1, 2);
        x.set(7, 2, 3);
        x.set(7, 3, 4);
        x.set(7, 4, 5);
        x.roll(7, 6);
        due("undo()", x.undo(), 7);
        x.wipe();
        dueText("up 7", -4);
        due("carpet(0, 0) where there was one", x.carpet(0, 0), 7);
        due("of(7, 0): it is a new one", x.of(7, 0), 0);
        due("of(7, 1): it is a new one", x.of(7, 1), 0);
        due("of(7, 2): it is a new one", x.of(7, 2), 8);
        due("of(7, 3): it is a new one", x.of(7, 3), 50);
        due("of(7, 4): it is a new one", x.of(7, 4), 0);
        due("of(7, 5): it is a new one", x.of(7, 5), -1);
    }

    private static void tear() {
        begin(39);
        due("tear()", x.tear(), 0);
        x.image();
        x.image();
        due("tear()", x.tear(), 1);
        due("tear()", x.tear(), 0);
        due("undo()", x.undo(), NONE);
        due("status(3)", x.status(3), 1);
    }

    private static void count() {
        beginWithAll(40);
        due("count(0)", x.count(0), 6);
        due("count(1)", x.count(1), 0);
        due("count(2)", x.count(2), 0);
        due("count(3)", x.count(3), 0);
        feed("mat 0");
        x.roll(5, 3);
        x.roll(4, 3);
        x.set(5, 4, 9);
        x.set(0, 4, 8);
        due("count(1)", x.count(1), 5);
        due("count(2)", x.count(2), 2);
        due("count(3)", x.count(3), 17);
        due("count(4)", x.count(4), BEYOND);
        due("count(-1)", x.count(-1), BEYOND);
        for (int w : WILD) {
            due("count(" + w + ")", x.count(w), BEYOND);
        }
    }

    private static void status() {
        begin(41);
        due("status(-1)", x.status(-1), 0);
        due("status(7)", x.status(7), BEYOND);
        due("status(0): counted from then on", x.status(0), 1);
        due("status(-2)", x.status(-2), BEYOND);
        for (int c = 0; c < 9; c++) {
            x.carpet(0, 0);
        }
        x.image();
        x.as(0, 1);
        x.as(0, 2);
        x.take(0, 0);
        x.fewest(0, 1);
        x.enough(0, 1);
        x.up(0);
        x.up(1);
        x.up(2);
        x.up(3);
        for (int i = 0; i < 5; i++) {
            x.lays(0);
        }
        for (int i = 0; i < 6; i++) {
            x.sheet(0, 8, -1);
        }
        int[] want = {2, 1, 2, 3, 4, 5, 6};
        for (int which = 0; which < 7; which++) {
            due("status(" + which + ")", x.status(which), want[which]);
        }
        due("status(-1)", x.status(-1), 23);
        x.undo();
        due("status(-1): undo takes none back", x.status(-1), 23);
        for (int w : WILD) {
            due("status(" + w + ")", x.status(w), BEYOND);
        }
        due("status(-1)", x.status(-1), 27);
    }

    /** All that section 1 tells, but the tape: asked so that nothing changes. */
    private static String look() {
        StringBuilder seen = new StringBuilder();
        for (int c = 0; c < x.count(0); c++) {
            for (int what = 0; what < 6; what++) {
                seen.append(x.of(c, what)).append(' ');
            }
        }
        for (int what = 0; what < 5; what++) {
            seen.append(x.now(what)).append(' ');
        }
        for (int place = 0; place < 7; place++) {
            int wet = x.rain(place, 0);
            x.rain(place, wet);
            seen.append(wet);
        }
        for (int y = 0; y < 40; y++) {
            seen.append(x.yard(y, 1));
        }
        return seen.toString();
    }

    /** Acts that answer a finding, each asked between two looks at everything. */
    private static void findingsChangeNothing() {
        int acts = 14;
        for (int act = 0; act < acts; act++) {
            beginWithAll(0);
            x.carpet(1, 3);
            x.carpet(2, 3);
            x.roll(0, 4);
            x.roll(1, 9);
            x.set(2, 3, 0);
            x.sheet(0, 8, 3);
            x.write(0, 2, 5L);
            x.sheet(1, 16, 3);
            feed("mat 0");
            String then = look();
            int tape = x.count(1);
            int all = x.status(-1);
            promise = 100 + act;
            due("a finding", wrongAct(act) < -1000000000 ? 1 : 0, 1);
            due("look() after it", look().equals(then) ? 1 : 0, 1);
            due("the tape after it", x.count(1), tape);
            due("number 2 of the sheet after it", x.write(0, 2, 5L), 5);
            due("one finding more", x.status(-1), all + 1);
            due("no image after it", x.tear(), 0);
        }
    }

    private static int wrongAct(int act) {
        switch (act) {
            case 0: return x.carpet(0, 0);
            case 1: return x.set(0, 3, 100);
            case 2: return x.turn(0, 6);
            case 3: return x.roll(2, 5);
            case 4: return x.roll(0, 40);
            case 5: return x.up(2);
            case 6: return x.days(61);
            case 7: return x.feed(0, 5);
            case 8: return x.sheet(0, 8, 41);
            case 9: return x.sheet(0, 0, -1);
            case 10: return x.copy(0, 0, 0, 1, 3);
            case 11: return x.book(0, 8);
            case 12: return x.undo();
            default: return x.best(2, 0);
        }
    }
}
