/** Promises 26 to 32: sheets, and what is counted. */
public final class SheetsTest {
    private static final int BAD = GlebeVowels.BAD;
    private static final int NOT = GlebeVowels.NOT;
    private static final int NONE = GlebeVowels.NONE;
    private static final int NULL = GlebeVowels.NULL;
    private static final int CAST = GlebeVowels.CAST;
    private static final int INDEX = GlebeVowels.INDEX;
    private static final int SIZE = GlebeVowels.SIZE;
    private static final int MIN = Integer.MIN_VALUE;
    private static final int MAX = Integer.MAX_VALUE;

    private SheetsTest() {
    }

    public static void main(String[] args) {
        sheet();
        drop();
        item();
        itemOfEachLane();
        copy();
        copyRefused();
        film();
        filmRefused();
        changes();
        changesRefused();
        count();
        Due.end();
    }

    private static void due(String call, long got, long want) {
        Due.due(call, got, want);
    }

    /** Whether the items of a sheet are these (0 to 4); sheet 3 is needed for it. */
    private static void items(String name, GlebeVowels x, int sheet, int lane, long... want) {
        due(name + ", how many", x.copy(sheet, want.length, sheet, want.length, 0), 0);
        due(name + ", no more", x.copy(sheet, want.length + 1, sheet, 0, 0), INDEX);
        for (int i = 0; i < want.length; i++) {
            due(name + ", item " + i, peek(x, sheet, lane, i), want[i]);
        }
    }

    /** An item that is 0 to 4: no call tells one as it is, so a becomes it in a change on sheet 3. */
    private static long peek(GlebeVowels x, int sheet, int lane, int i) {
        x.sheet(3, lane, 2);
        x.copy(sheet, i, 3, 1, 1);
        return x.changes(3, lane, 0, 1, 0);
    }

    private static void fill(GlebeVowels x, int sheet, int lane, long... items) {
        x.sheet(sheet, lane, items.length);
        for (int i = 0; i < items.length; i++) {
            due("item " + i + " of " + sheet, x.item(sheet, lane, i, items[i]), items[i]);
        }
    }

    /** Promise 26. */
    private static void sheet() {
        GlebeVowels x = new GlebeVowels();
        for (int lane = 0; lane < 4; lane++) {
            due("26: sheet(" + lane + ", " + lane + ", 24)", x.sheet(lane, lane, 24), 24);
        }
        due("26: sheet(0, 2, 0)", x.sheet(0, 2, 0), 0);
        due("26: sheet(-1, 0, 1)", x.sheet(-1, 0, 1), BAD);
        due("26: sheet(4, 0, 1)", x.sheet(4, 0, 1), BAD);
        due("26: sheet(0, -1, 1)", x.sheet(0, -1, 1), BAD);
        due("26: sheet(0, 4, 1)", x.sheet(0, 4, 1), BAD);
        due("26: sheet(0, 0, 25)", x.sheet(0, 0, 25), BAD);
        due("26: sheet(0, 0, MAX)", x.sheet(0, 0, MAX), BAD);
        due("26: sheet(0, 0, -1)", x.sheet(0, 0, -1), SIZE);
        due("26: sheet(0, 0, MIN)", x.sheet(0, 0, MIN), SIZE);
        due("26: bad ahead of size", x.sheet(4, 0, -1), BAD);
        due("26: bad lane ahead of size", x.sheet(0, 4, -1), BAD);
        due("26: refused ones leave it", x.drop(0), 0);
        due("26: refused ones leave 1", x.drop(1), 24);
        fill(x, 2, 1, 3, 4, 1);
        items("26: filled", x, 2, 1, 3, 4, 1);
        due("26: anew", x.sheet(2, 1, 4), 4);
        items("26: items 0 anew", x, 2, 1, 0, 0, 0, 0);
    }

    /** Promise 27. */
    private static void drop() {
        GlebeVowels x = new GlebeVowels();
        due("27: nothing at first", x.drop(0), NULL);
        due("27: drop(-1)", x.drop(-1), BAD);
        due("27: drop(4)", x.drop(4), BAD);
        x.sheet(0, 3, 7);
        x.sheet(1, 0, 0);
        due("27: seven", x.drop(0), 7);
        due("27: nothing then", x.drop(0), NULL);
        due("27: none, but a row", x.drop(1), 0);
        due("27: nothing then, too", x.drop(1), NULL);
        due("27: no item", x.item(0, 3, 0, 1), NULL);
        x.sheet(0, 1, 2);
        due("27: a new one", x.drop(0), 2);
    }

    /** Promise 28. */
    private static void item() {
        GlebeVowels x = new GlebeVowels();
        x.sheet(0, 2, 3);
        due("28: item 0", x.item(0, 2, 0, 5), 5);
        due("28: item 2", x.item(0, 2, 2, -5), -5);
        due("28: item 3", x.item(0, 2, 3, 5), INDEX);
        due("28: item -1", x.item(0, 2, -1, 5), INDEX);
        due("28: item MAX", x.item(0, 2, MAX, 5), INDEX);
        due("28: item MIN", x.item(0, 2, MIN, 5), INDEX);
        due("28: of another lane", x.item(0, 3, 0, 5), CAST);
        due("28: cast ahead of index", x.item(0, 1, 9, 5), CAST);
        due("28: null ahead of cast", x.item(1, 1, 9, 5), NULL);
        due("28: bad sheet", x.item(4, 2, 0, 5), BAD);
        due("28: sheet -1", x.item(-1, 2, 0, 5), BAD);
        due("28: bad lane", x.item(0, 4, 0, 5), BAD);
        due("28: lane -1", x.item(0, -1, 0, 5), BAD);
        due("28: bad ahead of null", x.item(1, 4, 0, 5), BAD);
        x.sheet(2, 0, 0);
        due("28: of none", x.item(2, 0, 0, 0), INDEX);
        x.sheet(2, 0, 24);
        due("28: the last", x.item(2, 0, 23, 9), 9);
        due("28: behind the last", x.item(2, 0, 24, 9), INDEX);
    }

    /** Promise 28: the lowest bits, read with their sign. */
    private static void itemOfEachLane() {
        GlebeVowels x = new GlebeVowels();
        for (int lane = 0; lane < 4; lane++) {
            x.sheet(lane, lane, 2);
        }
        long[] values = {0, 1, -1, 127, 128, 255, 256, -128, -129, 32767, 32768, 65535, 65536, -32769, MAX,
            MAX + 1L, 1L << 32, (1L << 32) - 1, MIN - 1L, Long.MAX_VALUE, Long.MIN_VALUE, 0x123456789ABCDEFL};
        for (long v : values) {
            due("28: byte of " + v, x.item(0, 0, 1, v), (byte) v);
            due("28: short of " + v, x.item(1, 1, 1, v), (short) v);
            due("28: int of " + v, x.item(2, 2, 1, v), (int) v);
            due("28: long of " + v, x.item(3, 3, 1, v), v);
        }
    }

    /** Promise 29. */
    private static void copy() {
        GlebeVowels x = new GlebeVowels();
        fill(x, 0, 2, 0, 1, 2, 3, 4);
        x.sheet(1, 2, 4);
        due("29: to another", x.copy(0, 1, 1, 2, 2), 2);
        items("29: to another", x, 1, 2, 0, 0, 1, 2);
        items("29: from stays", x, 0, 2, 0, 1, 2, 3, 4);
        due("29: forward in the same", x.copy(0, 0, 0, 1, 4), 4);
        items("29: forward", x, 0, 2, 0, 0, 1, 2, 3);
        due("29: backward in the same", x.copy(0, 2, 0, 0, 3), 3);
        items("29: backward", x, 0, 2, 1, 2, 3, 2, 3);
        due("29: all", x.copy(1, 0, 0, 1, 4), 4);
        items("29: all", x, 0, 2, 1, 0, 0, 1, 2);
        due("29: none", x.copy(0, 5, 1, 4, 0), 0);
        due("29: none, from the first", x.copy(0, 0, 1, 0, 0), 0);
        items("29: none changed", x, 1, 2, 0, 0, 1, 2);
    }

    /** Promise 29: what is refused. */
    private static void copyRefused() {
        GlebeVowels x = new GlebeVowels();
        fill(x, 0, 2, 4, 3, 2, 1, 0);
        x.sheet(1, 2, 4);
        x.sheet(2, 1, 9);
        due("29: from -1", x.copy(-1, 0, 1, 0, 1), BAD);
        due("29: from 4", x.copy(4, 0, 1, 0, 1), BAD);
        due("29: to -1", x.copy(0, 0, -1, 0, 1), BAD);
        due("29: to 4", x.copy(0, 0, 4, 0, 1), BAD);
        due("29: bad to ahead of null from", x.copy(3, 0, 4, 0, 1), BAD);
        due("29: null from", x.copy(3, 0, 1, 0, 1), NULL);
        due("29: null to", x.copy(0, 0, 3, 0, 1), NULL);
        due("29: null twice", x.copy(3, 9, 3, 9, 1), NULL);
        due("29: unlike", x.copy(0, 0, 2, 0, 1), CAST);
        due("29: unlike, none", x.copy(2, 0, 0, 0, 0), CAST);
        due("29: cast ahead of index", x.copy(0, -1, 2, 0, 1), CAST);
        due("29: n -1", x.copy(0, 0, 1, 0, -1), INDEX);
        due("29: n MIN", x.copy(0, 0, 1, 0, MIN), INDEX);
        due("29: n MAX", x.copy(0, 0, 1, 0, MAX), INDEX);
        due("29: i MAX", x.copy(0, MAX, 1, 0, 1), INDEX);
        due("29: i and n MAX", x.copy(0, MAX, 1, MAX, MAX), INDEX);
        due("29: i MIN", x.copy(0, MIN, 1, 0, MAX), INDEX);
        due("29: from too far", x.copy(0, 3, 1, 0, 3), INDEX);
        due("29: to too far", x.copy(0, 0, 1, 2, 3), INDEX);
        due("29: i -1", x.copy(0, -1, 1, 0, 2), INDEX);
        due("29: j -1", x.copy(0, 0, 1, -1, 2), INDEX);
        due("29: none, i -1", x.copy(0, -1, 1, 0, 0), INDEX);
        due("29: none, j -1", x.copy(0, 0, 1, -1, 0), INDEX);
        due("29: none, i 6 of 5", x.copy(0, 6, 1, 0, 0), INDEX);
        due("29: none, j 5 of 4", x.copy(0, 0, 1, 5, 0), INDEX);
        items("29: refused ones change nothing", x, 1, 2, 0, 0, 0, 0);
    }

    /** Promise 30. */
    private static void film() {
        GlebeVowels x = Due.on("lpp;a-;01;a;eaiou");
        x.sheet(0, 1, 5);
        due("30: film(0, 3, ..)", x.film(0, 3, 0, 1, 1), 3);
        items("30: a, e by turns, sets 2, 1, 2", x, 0, 1, 0, 2, 1, 2, 0);
        due("30: to the end", x.film(0, 5, 0, 1, 0), 5);
        items("30: to the end", x, 0, 1, 2, 1, 2, 1, 2);
        due("30: of one who says none", x.film(1, 2, 0, 1, 3), 2);
        items("30: none", x, 0, 1, 2, 1, 2, 0, 0);
        due("30: nothing else changes", x.count(3), 0);
        due("30: nor a sound", x.cell(0, 0), 0);
        x.sheet(1, 3, 24);
        due("30: 24 years", x.film(0, 24, 1, 3, 0), 24);
        x.sheet(2, 0, 1);
        GlebeVowels five = Due.on("lp;aeiou;00000;a;eioua");
        five.sheet(0, 0, 1);
        five.film(0, 1, 0, 0, 0);
        due("30: 31 is no vowel", five.sheet(1, 0, 2) + five.copy(0, 0, 1, 0, 1), 3);
        due("30: 31 is no vowel, indeed", five.changes(1, 0, 0, 1, NONE), NOT);
    }

    /** Promise 30: what is refused. */
    private static void filmRefused() {
        GlebeVowels x = Due.on("lpp;a-;01;a;eaiou");
        x.sheet(0, 1, 5);
        due("30: no such one", x.film(2, 1, 0, 1, 0), BAD);
        due("30: one -1", x.film(-1, 1, 0, 1, 0), BAD);
        due("30: n 0", x.film(0, 0, 0, 1, 0), BAD);
        due("30: n 25", x.film(0, 25, 0, 1, 0), BAD);
        due("30: sheet 4", x.film(0, 1, 4, 1, 0), BAD);
        due("30: sheet -1", x.film(0, 1, -1, 1, 0), BAD);
        due("30: lane 4", x.film(0, 1, 0, 4, 0), BAD);
        due("30: lane -1", x.film(0, 1, 0, -1, 0), BAD);
        due("30: bad ahead of null", x.film(0, 25, 3, 1, 0), BAD);
        due("30: null", x.film(0, 1, 3, 1, 9), NULL);
        due("30: cast", x.film(0, 1, 0, 2, 9), CAST);
        due("30: too far", x.film(0, 3, 0, 1, 3), INDEX);
        due("30: i 5 of 5", x.film(0, 1, 0, 1, 5), INDEX);
        due("30: i -1", x.film(0, 1, 0, 1, -1), INDEX);
        due("30: i MAX", x.film(0, 24, 0, 1, MAX), INDEX);
        due("30: i MIN", x.film(0, 24, 0, 1, MIN), INDEX);
        items("30: refused ones change nothing", x, 0, 1, 0, 0, 0, 0, 0);
        GlebeVowels none = new GlebeVowels();
        none.sheet(0, 1, 5);
        due("30: no land", none.film(0, 1, 0, 1, 0), BAD);
    }

    private static void changed(GlebeVowels x, int i, int n, int ways, int... becomes) {
        due("31: ways from " + i + " by " + n, x.changes(0, 3, i, n, NONE), ways);
        for (int v = 0; v < 5; v++) {
            due("31: " + v + " from " + i + " by " + n, x.changes(0, 3, i, n, v), becomes[v]);
        }
    }

    /** Promise 31. */
    private static void changes() {
        GlebeVowels x = new GlebeVowels();
        fill(x, 0, 3, 1, 3, 4, 2, 1, 3, 0, 0, 2, 4, 3, 1, 1, 2);
        changed(x, 0, 1, 625, 0, 3, 0, 0, 0);
        changed(x, 0, 2, 125, 0, 3, 0, 0, 2);
        changed(x, 0, 3, 125, 0, 3, 0, 0, 2);
        changed(x, 0, 4, 25, 0, 3, 0, 0, 2);
        changed(x, 0, 5, 5, 0, 3, 4, 0, 2);
        changed(x, 0, 6, 1, 0, 3, 4, 1, 2);
        changed(x, 0, 7, 0, NONE, NONE, NONE, NONE, NONE);
        changed(x, 12, 1, 625, 0, 2, 0, 0, 0);
        changed(x, 1, 2, 125, 0, 0, 1, 4, 0);
        fill(x, 1, 0, 2, 2, 2, 2, 2, 2, 2, 2, 2, 2, 2, 2, 2, 2, 2, 2, 2, 2, 2, 2, 2, 2, 2, 2);
        due("31: twelve pairs", x.changes(1, 0, 0, 12, NONE), 625);
        due("31: twelve pairs, i", x.changes(1, 0, 0, 12, 2), 2);
        due("31: twelve pairs, from 1", x.changes(1, 0, 1, 12, 2), INDEX);
        x.item(1, 0, 23, 1);
        due("31: the last one is otherwise", x.changes(1, 0, 0, 12, NONE), 0);
        due("31: the last one left out", x.changes(1, 0, 0, 11, NONE), 625);
    }

    /** Promise 31: what is refused. */
    private static void changesRefused() {
        GlebeVowels x = new GlebeVowels();
        fill(x, 0, 3, 1, 3, 4, 5, 1, -1);
        due("31: air is no vowel", x.changes(0, 3, 2, 1, NONE), NOT);
        due("31: air, one", x.changes(0, 3, 3, 1, NONE), NOT);
        due("31: -1 is none", x.changes(0, 3, 4, 1, 0), NOT);
        due("31: ahead of it", x.changes(0, 3, 0, 1, 1), 3);
        x.item(0, 3, 2, (1L << 32) + 1);
        due("31: a great one is none", x.changes(0, 3, 1, 1, NONE), NOT);
        x.item(0, 3, 2, 1);
        x.item(0, 3, 3, 4);
        due("31: not, ahead of none", x.changes(0, 3, 0, 3, 0), NOT);
        due("31: one way or none", x.changes(0, 3, 0, 2, NONE), 0);
        due("31: n 0", x.changes(0, 3, 0, 0, NONE), BAD);
        due("31: n 13", x.changes(0, 3, 0, 13, NONE), BAD);
        due("31: n MAX", x.changes(0, 3, 0, MAX, NONE), BAD);
        due("31: vowel 5", x.changes(0, 3, 0, 1, 5), BAD);
        due("31: vowel -1", x.changes(0, 3, 0, 1, -1), BAD);
        due("31: vowel -3", x.changes(0, 3, 0, 1, -3), BAD);
        due("31: vowel -5", x.changes(0, 3, 0, 1, -5), BAD);
        due("31: sheet 4", x.changes(4, 3, 0, 1, NONE), BAD);
        due("31: sheet -1", x.changes(-1, 3, 0, 1, NONE), BAD);
        due("31: lane 4", x.changes(0, 4, 0, 1, NONE), BAD);
        due("31: lane -1", x.changes(0, -1, 0, 1, NONE), BAD);
        due("31: bad ahead of null", x.changes(1, 3, 0, 13, NONE), BAD);
        due("31: null", x.changes(1, 3, 0, 1, NONE), NULL);
        due("31: cast", x.changes(0, 2, 9, 1, NONE), CAST);
        due("31: index", x.changes(0, 3, 5, 1, NONE), INDEX);
        due("31: index, n", x.changes(0, 3, 0, 4, NONE), INDEX);
        due("31: index ahead of not", x.changes(0, 3, 3, 2, NONE), INDEX);
        due("31: i -1", x.changes(0, 3, -1, 1, NONE), INDEX);
        due("31: i MAX", x.changes(0, 3, MAX, 12, NONE), INDEX);
        due("31: i MIN", x.changes(0, 3, MIN, 12, NONE), INDEX);
    }

    /** Promise 32. */
    private static void count() {
        GlebeVowels x = Due.on("lpbr;aei-/-oao;01../.2.0;cat,queue;eioua");
        Due.feed(x, "lp;");
        int[] at = {3, 4, 2, 0, 2, 4, 0, 3, Due.set(0, 1, 2, 3), Due.set(0, 1, 2, 3)};
        for (int what = 0; what < at.length; what++) {
            due("32: count(" + what + ")", x.count(what), at[what]);
        }
        due("32: count(-1)", x.count(-1), BAD);
        due("32: count(10)", x.count(10), BAD);
        due("32: count(MIN)", x.count(MIN), BAD);
        x.sell(0, NONE);
        x.year();
        int[] then = {3, 4, 2, 1, 2, 5, 2, 3, Due.set(1, 2, 3, 4), Due.set(1, 2, 3, 4)};
        for (int what = 0; what < then.length; what++) {
            due("32: count(" + what + ") then", x.count(what), then[what]);
        }
        GlebeVowels none = new GlebeVowels();
        none.feed('l');
        for (int what = 0; what <= 9; what++) {
            due("32: count(" + what + ") without a land", none.count(what), what == 7 ? 1 : 0);
        }
        GlebeVowels unsaid = Due.on("lpb;ae-;...;y;eioua");
        due("32: vowels of cells", unsaid.count(8), Due.set(0, 1));
        due("32: that nobody says", unsaid.count(9), 0);
    }
}
