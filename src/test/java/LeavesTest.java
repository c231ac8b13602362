/**
 * All promises: what an answered call leaves as it was. What is told or foretold changes nothing
 * ("FORETOLD from now (nothing changes)"), and what changes something changes nothing else.
 */
public final class LeavesTest {
    private static final int NONE = GlebeVowels.NONE;
    private static final int TOLD = Probe.TOLD, SHEETS = Probe.SHEETS, ACTS = Probe.ACTS;
    private static final int IMAGE_0 = Probe.IMAGE_0, IMAGE_1 = Probe.IMAGE_1, THE_TAPE = Probe.THE_TAPE;

    private LeavesTest() {
    }

    public static void main(String[] args) {
        for (int base : new int[] {Probe.FULL, Probe.BRIMFUL}) {
            told(base);
            foretoldOfOne(base);
            foretoldOfTwo(base);
            foretoldOfSales(base);
            acts(base);
            sheets(base);
        }
        reading();
        undone();
        Due.end();
    }

    private static void all(int base, String text, Probe.Call call) {
        Due.due(text + " is refused on " + Probe.BASES[base], call.on(Probe.make(base)) == GlebeVowels.BAD ? 1 : 0, 0);
        Probe.leavesAll(base, text, call);
    }

    private static void told(int base) {
        for (int k = 0; k < 10; k++) {
            int what = k;
            all(base, "count(" + what + ")", x -> x.count(what));
        }
        for (int k = 0; k < 6; k++) {
            int what = k;
            all(base, "holder(1, " + what + ")", x -> x.holder(1, what));
        }
        for (int k = 0; k < 3; k++) {
            int what = k;
            all(base, "cell(9, " + what + ")", x -> x.cell(9, what));
            all(base, "word(1, " + what + ")", x -> x.word(1, what));
        }
        all(base, "as(1, 4)", x -> x.as(1, 4));
    }

    private static void foretoldOfOne(int base) {
        all(base, "behind(0, 0)", x -> x.behind(0, 0));
        all(base, "behind(0, 7)", x -> x.behind(0, 7));
        all(base, "behind(2, 60)", x -> x.behind(2, 60));
        all(base, "first(0, 0)", x -> x.first(0, 0));
        all(base, "first(1, 1)", x -> x.first(1, 1));
        all(base, "round(0)", x -> x.round(0));
        all(base, "round(1)", x -> x.round(1));
        all(base, "scattered(0, 0)", x -> x.scattered(0, 0));
        all(base, "scattered(1, 1)", x -> x.scattered(1, 1));
        all(base, "drawn(0, 1, 0)", x -> x.drawn(0, 1, 0));
        all(base, "drawn(40, 999999, 0)", x -> x.drawn(40, 999999, 0));
        all(base, "drawn(3, 5, 1)", x -> x.drawn(3, 5, 1));
    }

    private static void foretoldOfTwo(int base) {
        for (int k = 1; k < 6; k++) {
            int m = k;
            all(base, "talk(1, " + m + ")", x -> x.talk(1, m));
            all(base, "marry(NONE, " + m + ")", x -> x.marry(NONE, m));
            all(base, "marry(1, " + m + ")", x -> x.marry(1, m));
        }
        all(base, "letters(0, 1, 1)", x -> x.letters(0, 1, 1));
        all(base, "letters(1, 2, 1000000)", x -> x.letters(1, 2, 1000000));
        all(base, "take(0, 1, 0)", x -> x.take(0, 1, 0) == 99 ? 1 : 0);
        all(base, "take(1, 2, 1)", x -> x.take(1, 2, 1) == 99 ? 1 : 0);
        all(base, "take(2, 0, 2)", x -> x.take(2, 0, 2) == 99 ? 1 : 0);
    }

    private static void foretoldOfSales(int base) {
        for (int k = -1; k < 4; k++) {
            int which = k;
            all(base, "buys(0, 0, " + which + ")", x -> x.buys(0, 0, which));
            all(base, "buys(2, 1, " + which + ")", x -> x.buys(2, 1, which));
        }
        for (int k = 1; k < 4; k++) {
            int n = k;
            for (int w = 0; w < 3; w++) {
                int what = w;
                all(base, "holdings(0, " + n + ", 1, " + what + ")", x -> x.holdings(0, n, 1, what));
                all(base, "holdings(1, " + n + ", 16, " + what + ")", x -> x.holdings(1, n, 16, what));
            }
            all(base, "chance(0, 0, " + (n - 1) + ", 0)", x -> x.chance(0, 0, n - 1, 0));
            all(base, "chance(1, 1, " + (n - 1) + ", 1)", x -> x.chance(1, 1, n - 1, 1));
        }
    }

    /** A sale, a ploughing, a year and what undoes them leave sheets, images and the tape. */
    private static void acts(int base) {
        int[] others = {SHEETS, IMAGE_0, IMAGE_1, THE_TAPE};
        Probe.leaves(base, "sell", x -> x.sell(9, 2), others);
        Probe.leaves(base, "plough", x -> x.plough(9, 1), others);
        Probe.leaves(base, "year", x -> x.year(), others);
        Probe.leaves(base, "undo", x -> x.undo(), others);
        Probe.leaves(base, "restore", x -> x.restore(0), others);
        Probe.leaves(base, "image 0", x -> x.image(0), TOLD, SHEETS, ACTS, IMAGE_1, THE_TAPE);
        Probe.leaves(base, "image 1", x -> x.image(1), TOLD, SHEETS, ACTS, IMAGE_0, THE_TAPE);
    }

    /** Rows of one sheet leave the others, and all else. */
    private static void sheets(int base) {
        int[] others = {TOLD, ACTS, IMAGE_0, IMAGE_1, THE_TAPE};
        Probe.leaves(base, "sheet", x -> x.sheet(0, 0, 24), others);
        Probe.leaves(base, "drop", x -> x.drop(1), others);
        Probe.leaves(base, "item", x -> x.item(0, 2, 5, 1), others);
        Probe.leaves(base, "copy", x -> x.copy(0, 0, 0, 1, 5), others);
        Probe.leaves(base, "film", x -> x.film(0, 6, 0, 2, 0), others);
        Probe.leaves(base, "film of 24", x -> x.film(1, 24, 1, 0, 0), others);
        all(base, "changes", x -> x.changes(0, 2, 0, 3, NONE));
        all(base, "changes of a vowel", x -> x.changes(0, 2, 0, 3, 4));
    }

    /** "A LAND that is read ..: all else stays", and with a FAULT all else but THE TAPE. */
    private static void reading() {
        Probe.leaves(Probe.FULL, "land()", x -> x.land(), SHEETS, IMAGE_0, IMAGE_1);
        Probe.leaves(Probe.BARE, "land()", x -> x.land(), SHEETS, IMAGE_0, IMAGE_1);
        Probe.leaves(Probe.FULL, "feed(0)", x -> x.feed(0), SHEETS, ACTS, IMAGE_0, IMAGE_1);
        for (int base : new int[] {Probe.FULL, Probe.BARE}) {
            String land = Probe.TAPE;
            for (int end = 0; end <= land.length(); end++) {
                String text = land.substring(0, end) + (end < land.length() ? "?" : "!");
                Probe.leavesAll(base, "land() of " + text, x -> faulty(x, text));
            }
            Probe.leavesAll(base, "land() of nothing", x -> faulty(x, ""));
        }
        Probe.leaves(Probe.BRIMFUL, "land() of a land", x -> x.land() + Due.read(x, Probe.TAPE), SHEETS, IMAGE_0, IMAGE_1);
        Probe.leaves(Probe.BRIMFUL, "land() with a fault", x -> x.land(), SHEETS, ACTS, IMAGE_0, IMAGE_1);
    }

    /** Reads a text with a FAULT; ahead of it the tape is emptied, behind it filled as it was. */
    private static long faulty(GlebeVowels x, String text) {
        x.feed('?');
        Due.due("land() of the tape and one byte more", x.land(), -100 - Probe.TAPE.length());
        int fault = Due.read(x, text);
        Due.feed(x, Probe.TAPE);
        return fault;
    }

    /** An act and its undoing leave all, as far as there is room for the act. */
    private static void undone() {
        Probe.leavesAll(Probe.FULL, "sell and undo", x -> x.sell(9, 2) + x.undo());
        Probe.leavesAll(Probe.FULL, "sell to nobody and undo", x -> x.sell(0, NONE) + x.undo());
        Probe.leavesAll(Probe.FULL, "plough and undo", x -> x.plough(9, 1) + x.undo());
        Probe.leavesAll(Probe.FULL, "plough to air and undo", x -> x.plough(0, 5) + x.undo());
        Probe.leavesAll(Probe.FULL, "year and undo", x -> x.year() + x.undo());
        Probe.leavesAll(Probe.FULL, "two years and two undone", x -> x.year() + x.year() + x.undo() + x.undo());
    }
}
