import java.util.ArrayList;
import java.util.List;

/**
 * All promises: which answer below 0 comes where two refusals meet in one call, and that a refused
 * call leaves all as it was: "What is refused changes nothing, but as told", "Answers below 0, of
 * several the first that a call names, NONE (wherever it is named) behind all others".
 */
public final class RefusedTest {
    private static final int BAD = GlebeVowels.BAD;
    private static final int NOT = GlebeVowels.NOT;
    private static final int FULL = GlebeVowels.FULL;
    private static final int NONE = GlebeVowels.NONE;
    private static final int NULL = GlebeVowels.NULL;
    private static final int CAST = GlebeVowels.CAST;
    private static final int INDEX = GlebeVowels.INDEX;
    private static final int SIZE = GlebeVowels.SIZE;
    private static final int MIN = Integer.MIN_VALUE;
    private static final int MAX = Integer.MAX_VALUE;

    private RefusedTest() {
    }

    /** A call with arguments that are ints; an item's value comes as an int, too. */
    interface Call {
        long on(GlebeVowels x, int[] a);
    }

    public static void main(String[] args) {
        numbers();
        badOfTold();
        badOfActs();
        badOfYears();
        badOfTwo();
        badOfSales();
        badOfSheets();
        badOfRows();
        badWithoutLand();
        notWithoutLand();
        notOfActs();
        full();
        none();
        castOfHolders();
        sizes();
        nulls();
        casts();
        indexes();
        notOfChanges();
        Due.end();
    }

    /** "BAD -1 .., NOT -2, FULL -3, NONE -4, NULL -11, CAST -12, INDEX -13, SIZE -14." */
    private static void numbers() {
        Due.due("BAD", BAD, -1);
        Due.due("NOT", NOT, -2);
        Due.due("FULL", FULL, -3);
        Due.due("NONE", NONE, -4);
        Due.due("NULL", NULL, -11);
        Due.due("CAST", CAST, -12);
        Due.due("INDEX", INDEX, -13);
        Due.due("SIZE", SIZE, -14);
    }

    private static final int ON_FULL = Probe.FULL, ON_BARE = Probe.BARE, ON_BRIMFUL = Probe.BRIMFUL;

    /** The call is answered so, and behind it the object tells all that it told before. */
    private static void refused(int base, String name, Call call, int want, int... a) {
        answered(base, name, call, want, a);
        Probe.leavesAll(base, text(name, a), x -> call.on(x, a));
    }

    private static void answered(int base, String name, Call call, int want, int... a) {
        Due.due(text(name, a) + " on " + Probe.BASES[base], call.on(Probe.make(base), a), want);
    }

    private static String text(String name, int[] a) {
        StringBuilder text = new StringBuilder(name).append("(");
        for (int k = 0; k < a.length; k++) {
            text.append(k == 0 ? "" : ", ").append(a[k]);
        }
        return text.append(")").toString();
    }

    private static int[] row(int... numbers) {
        return numbers;
    }

    /**
     * Each bad value of an argument, with all mixes of what the others may be (the first of it
     * would do; the rest is what gives another refusal, or NONE): BAD, ahead of all others.
     */
    private static void bad(int base, String name, Call call, int[][] others, int[][] bads) {
        for (int p = 0; p < bads.length; p++) {
            for (int value : bads[p]) {
                List<int[]> mixes = mixes(others, p, value);
                refused(base, name, call, BAD, mixes.get(0));
                for (int[] mix : mixes) {
                    answered(base, name, call, BAD, mix);
                }
            }
        }
    }

    private static List<int[]> mixes(int[][] others, int p, int value) {
        List<int[]> mixes = new ArrayList<>();
        mixes.add(new int[others.length]);
        for (int at = 0; at < others.length; at++) {
            List<int[]> longer = new ArrayList<>();
            for (int[] mix : mixes) {
                for (int other : at == p ? row(value) : others[at]) {
                    int[] next = mix.clone();
                    next[at] = other;
                    longer.add(next);
                }
            }
            mixes = longer;
        }
        return mixes;
    }

    /** Just outside of what is told on each side, and from far outside. */
    private static int[] outside(int least, int greatest) {
        return row(least - 1, greatest + 1, MIN, MAX, least - 256, greatest + 256);
    }

    private static final int[] ANY = row(0, 1, -1, 9);
    private static final int[] NO_HOLDER = row(-1, 3, 6, NONE, MIN, MAX);
    private static final int[] NO_CELL = row(-1, 3, 7, 11, 16, 24, 64, -8, 72, NONE, MIN, MAX);

    private static void badOfTold() {
        bad(ON_FULL, "feed", (x, a) -> x.feed(a[0]), new int[][] {row('l')}, new int[][] {outside(0, 255)});
        bad(ON_FULL, "holder", (x, a) -> x.holder(a[0], a[1]), new int[][] {row(0, 1, 2, 3), row(0, 1, 6)},
            new int[][] {NO_HOLDER, outside(0, 5)});
        bad(ON_FULL, "cell", (x, a) -> x.cell(a[0], a[1]), new int[][] {row(0, 2, 3), row(0, 1, 3)},
            new int[][] {NO_CELL, outside(0, 2)});
        bad(ON_FULL, "word", (x, a) -> x.word(a[0], a[1]), new int[][] {row(0, 1, 2), row(0, 1, 3)},
            new int[][] {row(-1, 2, 3, 4, MIN, MAX), outside(0, 2)});
        bad(ON_FULL, "as", (x, a) -> x.as(a[0], a[1]), new int[][] {row(0, 1, 2, 3), row(0, 1, 4, 5, 6)},
            new int[][] {NO_HOLDER, outside(0, 5)});
        bad(ON_FULL, "count", (x, a) -> x.count(a[0]), new int[][] {row(0)}, new int[][] {outside(0, 9)});
    }

    /** BAD ahead of NOT: a cell that is none is of nobody, and has no sound to be ploughed to. */
    private static void badOfActs() {
        int[] noBuyer = row(-1, 3, 6, -3, -5, MIN, MAX);
        bad(ON_FULL, "sell", (x, a) -> x.sell(a[0], a[1]), new int[][] {row(0, 2, 3, 10), row(0, 1, NONE, 3)},
            new int[][] {NO_CELL, noBuyer});
        bad(ON_FULL, "plough", (x, a) -> x.plough(a[0], a[1]), new int[][] {row(0, 9, 3), row(0, 4, 5, 6)},
            new int[][] {NO_CELL, outside(0, 5)});
        bad(ON_FULL, "image", (x, a) -> x.image(a[0]), new int[][] {row(0)}, new int[][] {outside(0, 1)});
        bad(ON_FULL, "restore", (x, a) -> x.restore(a[0]), new int[][] {row(0)}, new int[][] {outside(0, 1)});
    }

    private static void badOfYears() {
        bad(ON_FULL, "behind", (x, a) -> x.behind(a[0], a[1]), new int[][] {row(0, 1, 3), row(0, 60, 61)},
            new int[][] {NO_HOLDER, outside(0, 60)});
        bad(ON_FULL, "first", (x, a) -> x.first(a[0], a[1]), new int[][] {row(0, 1, 3), row(0, 1, 2)},
            new int[][] {NO_HOLDER, row(-1, 2, 4, MIN, MAX)});
        bad(ON_FULL, "round", (x, a) -> x.round(a[0]), new int[][] {row(0)}, new int[][] {outside(0, 1)});
        bad(ON_FULL, "scattered", (x, a) -> x.scattered(a[0], a[1]), new int[][] {row(0, 2, 3), row(0, 1, 2)},
            new int[][] {NO_HOLDER, outside(0, 1)});
        bad(ON_FULL, "drawn", (x, a) -> x.drawn(a[0], a[1], a[2]),
            new int[][] {row(1, 0, 40, 41), row(1, 999999, 0), row(0, 1, 2)},
            new int[][] {outside(0, 40), outside(1, 999999), outside(0, 1)});
    }

    /** "BAD: the same, too", also for a q of 1 and with no turns. */
    private static void badOfTwo() {
        int[] ones = row(0, 2, 3);
        bad(ON_FULL, "talk", (x, a) -> x.talk(a[0], a[1]), new int[][] {ones, row(1, 5, 6)},
            new int[][] {NO_HOLDER, outside(1, 5)});
        bad(ON_FULL, "marry", (x, a) -> x.marry(a[0], a[1]), new int[][] {row(0, NONE, 2, 3), row(1, 5, 6)},
            new int[][] {row(-1, 3, 6, -3, -5, MIN, MAX), outside(1, 5)});
        Call letters = (x, a) -> x.letters(a[0], a[1], a[2]);
        bad(ON_FULL, "letters", letters, new int[][] {row(0, 3), row(1, 2, 3), row(1, 2, 1000000, 0)},
            new int[][] {NO_HOLDER, NO_HOLDER, outside(1, 1000000)});
        Call take = (x, a) -> x.take(a[0], a[1], a[2]);
        bad(ON_FULL, "take", take, new int[][] {row(0, 3), row(1, 2, 3), row(0, 1, 2, 3)},
            new int[][] {NO_HOLDER, NO_HOLDER, outside(0, 2)});
        for (int one = 0; one < 3; one++) {
            refused(ON_FULL, "letters", letters, BAD, one, one, 1);
            refused(ON_FULL, "letters", letters, BAD, one, one, 2);
            refused(ON_FULL, "letters", letters, BAD, one, one, 0);
            refused(ON_FULL, "take", take, BAD, one, one, 0);
            refused(ON_FULL, "take", take, BAD, one, one, 2);
            refused(ON_FULL, "take", take, BAD, one, one, 3);
        }
    }

    /** "BAD: k below -1, too", ahead of NONE. */
    private static void badOfSales() {
        int[] noWord = row(-1, 2, 4, MIN, MAX);
        bad(ON_FULL, "buys", (x, a) -> x.buys(a[0], a[1], a[2]), new int[][] {row(0, 1, 2, 3), row(0, 1, 2), row(-1, 0, 3, -2)},
            new int[][] {NO_HOLDER, noWord, row(-2, -3, NONE, -5, MIN)});
        bad(ON_FULL, "holdings", (x, a) -> x.holdings(a[0], a[1], a[2], a[3]),
            new int[][] {row(0, 2, 3), row(1, 3, 4), row(0, 31, 32), row(0, 1, 2, 3)},
            new int[][] {NO_HOLDER, outside(1, 3), outside(0, 31), outside(0, 2)});
        bad(ON_FULL, "chance", (x, a) -> x.chance(a[0], a[1], a[2], a[3]),
            new int[][] {row(0, 2, 3), row(0, 1, 2), row(0, 2, 3), row(0, 1, 2)},
            new int[][] {NO_HOLDER, noWord, outside(0, 2), outside(0, 1)});
    }

    /** BAD ahead of SIZE, of NULL (sheet 3), of CAST and of INDEX. */
    private static void badOfSheets() {
        int[] noSheet = outside(0, 3);
        int[] noLane = outside(0, 3);
        bad(ON_FULL, "sheet", (x, a) -> x.sheet(a[0], a[1], a[2]), new int[][] {row(0, 3, 4), row(2, 0, 4), row(6, -1, MIN, 25)},
            new int[][] {noSheet, noLane, row(25, 26, 256, MAX)});
        bad(ON_FULL, "drop", (x, a) -> x.drop(a[0]), new int[][] {row(0)}, new int[][] {noSheet});
        bad(ON_FULL, "item", (x, a) -> x.item(a[0], a[1], a[2], a[3]),
            new int[][] {row(0, 3, 4), row(2, 1, 4), row(0, 6, -1), row(3)}, new int[][] {noSheet, noLane});
    }

    private static void badOfRows() {
        int[] noSheet = outside(0, 3);
        int[] noLane = outside(0, 3);
        int[] from = row(0, 6, -1);
        bad(ON_FULL, "copy", (x, a) -> x.copy(a[0], a[1], a[2], a[3], a[4]),
            new int[][] {row(0, 3, 4), from, row(0, 1, 3, 4), from, row(1, -1, 9)},
            new int[][] {noSheet, {}, noSheet, {}, {}});
        bad(ON_FULL, "film", (x, a) -> x.film(a[0], a[1], a[2], a[3], a[4]),
            new int[][] {row(0, 3), row(1, 24, 25), row(0, 3, 4), row(2, 1, 4), from},
            new int[][] {NO_HOLDER, outside(1, 24), noSheet, noLane, {}});
        bad(ON_FULL, "changes", (x, a) -> x.changes(a[0], a[1], a[2], a[3], a[4]),
            new int[][] {row(0, 1, 3, 4), row(2, 0, 4), from, row(1, 12, 13), row(NONE, 0, 4, 5)},
            new int[][] {noSheet, noLane, {}, outside(1, 12), row(-1, 5, -2, -3, -5, MIN, MAX)});
    }

    /** "there is no such thing": without a LAND no HOLDER, CELL or word is. */
    private static void badWithoutLand() {
        int[] some = row(0, 1, -1, 5, NONE);
        bad(ON_BARE, "holder", (x, a) -> x.holder(a[0], a[1]), new int[][] {some, row(0, 5, 6)}, new int[][] {some, {}});
        bad(ON_BARE, "cell", (x, a) -> x.cell(a[0], a[1]), new int[][] {some, row(0, 1, 2, 3)}, new int[][] {some, {}});
        bad(ON_BARE, "word", (x, a) -> x.word(a[0], a[1]), new int[][] {some, row(0, 1, 2, 3)}, new int[][] {some, {}});
        bad(ON_BARE, "as", (x, a) -> x.as(a[0], a[1]), new int[][] {some, row(0, 5, 6)}, new int[][] {some, {}});
        bad(ON_BARE, "sell", (x, a) -> x.sell(a[0], a[1]), new int[][] {some, some}, new int[][] {some, {}});
        bad(ON_BARE, "plough", (x, a) -> x.plough(a[0], a[1]), new int[][] {some, row(0, 4, 5, 6)}, new int[][] {some, {}});
        bad(ON_BARE, "behind", (x, a) -> x.behind(a[0], a[1]), new int[][] {some, row(0, 60, 61)}, new int[][] {some, {}});
        bad(ON_BARE, "first", (x, a) -> x.first(a[0], a[1]), new int[][] {some, some}, new int[][] {some, {}});
        bad(ON_BARE, "buys", (x, a) -> x.buys(a[0], a[1], a[2]), new int[][] {some, some, row(-1, 0)}, new int[][] {some, {}, {}});
        bad(ON_BARE, "scattered", (x, a) -> x.scattered(a[0], a[1]), new int[][] {some, row(0, 1)}, new int[][] {some, {}});
        bad(ON_BARE, "talk", (x, a) -> x.talk(a[0], a[1]), new int[][] {some, row(1, 5)}, new int[][] {some, {}});
        bad(ON_BARE, "letters", (x, a) -> x.letters(a[0], a[1], a[2]), new int[][] {some, some, row(1, 2)}, new int[][] {some, {}, {}});
        bad(ON_BARE, "take", (x, a) -> x.take(a[0], a[1], a[2]), new int[][] {some, some, row(0, 1)}, new int[][] {some, {}, {}});
        bad(ON_BARE, "holdings", (x, a) -> x.holdings(a[0], a[1], a[2], a[3]),
            new int[][] {some, row(1, 3), row(0, 31), row(0, 1, 2)}, new int[][] {some, {}, {}, {}});
        bad(ON_BARE, "chance", (x, a) -> x.chance(a[0], a[1], a[2], a[3]),
            new int[][] {some, some, row(0, 2), row(0, 1)}, new int[][] {some, {}, {}, {}});
        bad(ON_BARE, "film", (x, a) -> x.film(a[0], a[1], a[2], a[3], a[4]),
            new int[][] {some, row(1), row(0, 1, 3), row(2, 0), row(0, 9)}, new int[][] {some, {}, {}, {}, {}});
    }

    /** "NOT: no LAND", behind BAD; of `marry` with one NONE alone. */
    private static void notWithoutLand() {
        refused(ON_BARE, "year", (x, a) -> x.year(), NOT);
        refused(ON_BARE, "image", (x, a) -> x.image(a[0]), NOT, 0);
        refused(ON_BARE, "image", (x, a) -> x.image(a[0]), NOT, 1);
        bad(ON_BARE, "image", (x, a) -> x.image(a[0]), new int[][] {row(0)}, new int[][] {outside(0, 1)});
        refused(ON_BARE, "restore", (x, a) -> x.restore(a[0]), NOT, 0);
        refused(ON_BARE, "restore", (x, a) -> x.restore(a[0]), NOT, 1);
        bad(ON_BARE, "restore", (x, a) -> x.restore(a[0]), new int[][] {row(0)}, new int[][] {outside(0, 1)});
        refused(ON_BARE, "round", (x, a) -> x.round(a[0]), NOT, 0);
        refused(ON_BARE, "round", (x, a) -> x.round(a[0]), NOT, 1);
        bad(ON_BARE, "round", (x, a) -> x.round(a[0]), new int[][] {row(0)}, new int[][] {outside(0, 1)});
        Call marry = (x, a) -> x.marry(a[0], a[1]);
        refused(ON_BARE, "marry", marry, NOT, NONE, 1);
        refused(ON_BARE, "marry", marry, NOT, NONE, 5);
        bad(ON_BARE, "marry", marry, new int[][] {row(NONE, 0), row(1, 5, 6)},
            new int[][] {row(0, 1, 5, 6, -1, -3, -5, MIN, MAX), outside(1, 5)});
        Call drawn = (x, a) -> x.drawn(a[0], a[1], a[2]);
        for (int what = 0; what < 2; what++) {
            refused(ON_BARE, "drawn", drawn, NOT, 0, 1, what);
            refused(ON_BARE, "drawn", drawn, NOT, 40, 999999, what);
        }
        bad(ON_BARE, "drawn", drawn, new int[][] {row(0, 41), row(1, 0), row(0, 2)},
            new int[][] {outside(0, 40), outside(1, 999999), outside(0, 1)});
    }

    /** `sell`: "NOT: he does (to nobody: nobody does)"; `plough`: "NOT: it has it"; `restore`: "NOT: none was kept". */
    private static void notOfActs() {
        Call sell = (x, a) -> x.sell(a[0], a[1]);
        int[] cells = {0, 1, 2, 8, 9, 10};
        int[] whose = {0, 1, NONE, 1, 0, NONE};
        int[] sounds = {4, 2, 3, 4, 5, 0};
        for (int k = 0; k < cells.length; k++) {
            refused(ON_FULL, "sell", sell, NOT, cells[k], whose[k]);
            refused(ON_FULL, "plough", (x, a) -> x.plough(a[0], a[1]), NOT, cells[k], sounds[k]);
        }
        refused(ON_FULL, "restore", (x, a) -> x.restore(a[0]), NOT, 1);
        refused(ON_BRIMFUL, "sell", sell, NOT, 0, 2);
        refused(ON_BRIMFUL, "sell", sell, NOT, 8, NONE);
        refused(ON_BRIMFUL, "sell", sell, BAD, 8, 3);
        refused(ON_BRIMFUL, "plough", (x, a) -> x.plough(a[0], a[1]), NOT, 10, 0);
        refused(ON_BRIMFUL, "plough", (x, a) -> x.plough(a[0], a[1]), BAD, 10, 6);
    }

    /** `feed`: BAD, then FULL. */
    private static void full() {
        Call feed = (x, a) -> x.feed(a[0]);
        for (int letter : row(0, 'l', 'x', 255)) {
            refused(ON_BRIMFUL, "feed", feed, FULL, letter);
        }
        bad(ON_BRIMFUL, "feed", feed, new int[][] {row('l')}, new int[][] {outside(0, 255)});
    }

    /** What is answered NONE changes nothing, either. */
    private static void none() {
        refused(ON_BARE, "undo", (x, a) -> x.undo(), NONE);
        refused(ON_FULL, "first", (x, a) -> x.first(a[0], a[1]), NONE, 0, 1);
        refused(ON_FULL, "buys", (x, a) -> x.buys(a[0], a[1], a[2]), NONE, 2, 1, -1);
        refused(ON_FULL, "buys", (x, a) -> x.buys(a[0], a[1], a[2]), NONE, 2, 1, 0);
        refused(ON_FULL, "buys", (x, a) -> x.buys(a[0], a[1], a[2]), NONE, 0, 0, 3);
        refused(ON_FULL, "marry", (x, a) -> x.marry(a[0], a[1]), NONE, 0, 5);
        refused(ON_FULL, "letters", (x, a) -> x.letters(a[0], a[1], a[2]), NONE, 0, 2, 2);
        refused(ON_FULL, "holdings", (x, a) -> x.holdings(a[0], a[1], a[2], a[3]), NONE, 0, 1, 31, 2);
        refused(ON_FULL, "changes", (x, a) -> x.changes(a[0], a[1], a[2], a[3], a[4]), NONE, 1, 0, 4, 2, 0);
        GlebeVowels x = Due.on(Probe.LAND);
        x.sell(0, 1);
        Due.due("the one act", x.undo(), 0);
        Due.due("no other", x.undo(), NONE);
        Due.due("no other still", x.undo(), NONE);
        Due.due("as it was read", x.cell(0, 1), 0);
    }

    /** `as`: "CAST: he is none such", and BAD ahead of it. */
    private static void castOfHolders() {
        int[][] none = {{2, 3, 4, 5}, {1, 2, 3}, {2, 4, 5}};
        for (int one = 0; one < none.length; one++) {
            for (int kind : none[one]) {
                refused(ON_FULL, "as", (x, a) -> x.as(a[0], a[1]), CAST, one, kind);
            }
        }
    }

    /** `sheet`: "SIZE: n below 0". */
    private static void sizes() {
        for (int sheet = 0; sheet < 4; sheet++) {
            for (int lane = 0; lane < 4; lane++) {
                refused(ON_FULL, "sheet", (x, a) -> x.sheet(a[0], a[1], a[2]), SIZE, sheet, lane, -1);
                answered(ON_FULL, "sheet", (x, a) -> x.sheet(a[0], a[1], a[2]), SIZE, sheet, lane, -24);
                answered(ON_FULL, "sheet", (x, a) -> x.sheet(a[0], a[1], a[2]), SIZE, sheet, lane, MIN);
            }
        }
    }

    /** NULL ahead of CAST and INDEX; of `copy` "NULL (either)". */
    private static void nulls() {
        refused(ON_FULL, "drop", (x, a) -> x.drop(a[0]), NULL, 3);
        for (int lane = 0; lane < 4; lane++) {
            for (int i : row(0, -1, 24, MIN, MAX)) {
                refused(ON_FULL, "item", (x, a) -> x.item(a[0], a[1], a[2], a[3]), NULL, 3, lane, i, 1);
                refused(ON_FULL, "film", (x, a) -> x.film(a[0], a[1], a[2], a[3], a[4]), NULL, 0, 1, 3, lane, i);
                refused(ON_FULL, "changes", (x, a) -> x.changes(a[0], a[1], a[2], a[3], a[4]), NULL, 3, lane, i, 1, NONE);
            }
        }
        Call copy = (x, a) -> x.copy(a[0], a[1], a[2], a[3], a[4]);
        for (int sheet = 0; sheet < 4; sheet++) {
            refused(ON_FULL, "copy", copy, NULL, sheet, 0, 3, 0, 0);
            refused(ON_FULL, "copy", copy, NULL, 3, 0, sheet, 0, 0);
            refused(ON_FULL, "copy", copy, NULL, sheet, -1, 3, 9, -1);
            refused(ON_FULL, "copy", copy, NULL, 3, 9, sheet, -1, MAX);
        }
    }

    /** CAST ahead of INDEX (and of NOT). */
    private static void casts() {
        int[] lanes = {2, 0, 3};
        for (int sheet = 0; sheet < lanes.length; sheet++) {
            for (int lane = 0; lane < 4; lane++) {
                for (int i : lane == lanes[sheet] ? row() : row(0, 1, -1, 24, MIN, MAX)) {
                    refused(ON_FULL, "item", (x, a) -> x.item(a[0], a[1], a[2], a[3]), CAST, sheet, lane, i, 1);
                    refused(ON_FULL, "film", (x, a) -> x.film(a[0], a[1], a[2], a[3], a[4]), CAST, 0, 1, sheet, lane, i);
                    refused(ON_FULL, "changes", (x, a) -> x.changes(a[0], a[1], a[2], a[3], a[4]), CAST, sheet, lane, i, 1, 0);
                }
            }
        }
        Call copy = (x, a) -> x.copy(a[0], a[1], a[2], a[3], a[4]);
        for (int[] pair : new int[][] {{0, 1}, {1, 0}, {0, 2}, {2, 0}, {1, 2}, {2, 1}}) {
            refused(ON_FULL, "copy", copy, CAST, pair[0], 0, pair[1], 0, 0);
            refused(ON_FULL, "copy", copy, CAST, pair[0], 0, pair[1], 0, 1);
            refused(ON_FULL, "copy", copy, CAST, pair[0], -1, pair[1], 99, 1);
            refused(ON_FULL, "copy", copy, CAST, pair[0], 0, pair[1], 0, -1);
        }
    }

    /** INDEX: nothing is written, not even what there is room for; ahead of NOT. */
    private static void indexes() {
        Call item = (x, a) -> x.item(a[0], a[1], a[2], a[3]);
        for (int i : row(-1, 6, 7, 24, MIN, MAX)) {
            refused(ON_FULL, "item", item, INDEX, 0, 2, i, 3);
        }
        refused(ON_FULL, "item", item, INDEX, 1, 0, 24, 3);
        refused(ON_FULL, "item", item, INDEX, 2, 3, 0, 3);
        Call film = (x, a) -> x.film(a[0], a[1], a[2], a[3], a[4]);
        for (int[] a : new int[][] {{1, 6}, {1, -1}, {6, 1}, {7, 0}, {24, 0}, {1, MIN}, {1, MAX}, {24, MAX}, {6, -1}}) {
            refused(ON_FULL, "film", film, INDEX, 0, a[0], 0, 2, a[1]);
        }
        refused(ON_FULL, "film", film, INDEX, 0, 24, 1, 0, 1);
        refused(ON_FULL, "film", film, INDEX, 0, 1, 2, 3, 0);
        Call changes = (x, a) -> x.changes(a[0], a[1], a[2], a[3], a[4]);
        for (int[] a : new int[][] {{5, 1}, {6, 1}, {-1, 1}, {1, 3}, {0, 4}, {0, 12}, {MIN, 1}, {MAX, 12}}) {
            refused(ON_FULL, "changes", changes, INDEX, 0, 2, a[0], a[1], NONE);
        }
        refused(ON_FULL, "changes", changes, INDEX, 1, 0, 1, 12, NONE);
        refused(ON_FULL, "changes", changes, INDEX, 2, 3, 0, 1, NONE);
        Call copy = (x, a) -> x.copy(a[0], a[1], a[2], a[3], a[4]);
        for (int[] a : new int[][] {{-1, 0, 1}, {0, -1, 1}, {6, 0, 1}, {0, 6, 1}, {1, 0, 6}, {0, 1, 6}, {0, 0, 7}, {0, 0, -1},
            {2, 2, -1}, {0, 0, MIN}, {0, 0, MAX}, {MAX, 0, MAX}, {0, MAX, MAX}, {MIN, 0, MAX}, {7, 0, 0}, {0, 7, 0},
            {-1, 0, 0}, {0, -1, 0}, {MAX, 0, 0}, {0, MAX, 0}, {MIN, 0, 0}, {0, MIN, 0}, {6, 7, 0}, {7, 6, 0}}) {
            refused(ON_FULL, "copy", copy, INDEX, 0, a[0], 0, a[1], a[2]);
        }
    }

    /** `changes`: "NOT: an item that is no VOWEL", and NONE behind it. */
    private static void notOfChanges() {
        Call changes = (x, a) -> x.changes(a[0], a[1], a[2], a[3], a[4]);
        for (int vowel : row(NONE, 0, 1, 2, 3, 4)) {
            refused(ON_FULL, "changes", changes, NOT, 1, 0, 0, 1, vowel);
            refused(ON_FULL, "changes", changes, NOT, 1, 0, 1, 1, vowel);
            refused(ON_FULL, "changes", changes, NOT, 1, 0, 0, 12, vowel);
        }
    }
}
