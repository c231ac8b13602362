/** Promises 26 to 32, sentence by sentence: sheets, lanes and items at their edges, and what is counted. */
public final class SheetsEdgesTest {
    private static final int BAD = GlebeVowels.BAD;
    private static final int NOT = GlebeVowels.NOT;
    private static final int NONE = GlebeVowels.NONE;
    private static final int NULL = GlebeVowels.NULL;
    private static final int CAST = GlebeVowels.CAST;
    private static final int INDEX = GlebeVowels.INDEX;
    private static final int SIZE = GlebeVowels.SIZE;
    private static final int MIN = Integer.MIN_VALUE;
    private static final int MAX = Integer.MAX_VALUE;

    private SheetsEdgesTest() {
    }

    public static void main(String[] args) {
        eachSheetEachLane();
        eachSize();
        aNewRow();
        dropped();
        eachItem();
        lowestBits();
        eachCopy();
        copyBetween();
        copyOfNone();
        copyOfEachLane();
        eachFilm();
        filmOfEachLane();
        filmTellsBehind();
        eachChange();
        changesOfTwelve();
        changesOfNoVowel();
        countWithoutLand();
        countAtTheEdges();
        Due.end();
    }

    private static void due(String call, long got, long want) {
        Due.due(call, got, want);
    }

    private static void fill(GlebeVowels x, int sheet, int lane, int... items) {
        x.sheet(sheet, lane, items.length);
        for (int i = 0; i < items.length; i++) {
            due("item " + i + " becomes " + items[i], x.item(sheet, lane, i, items[i]), items[i]);
        }
    }

    /** Whether the items, which are VOWELS, are these: each by what it makes of a in a change on sheet 3. */
    private static void items(String of, GlebeVowels x, int sheet, int lane, int... want) {
        due(of + ", how many", x.copy(sheet, want.length, sheet, want.length, 0), 0);
        due(of + ", no more", x.copy(sheet, want.length + 1, sheet, 0, 0), INDEX);
        x.sheet(3, lane, 2);
        for (int i = 0; i < want.length; i++) {
            x.copy(sheet, i, 3, 1, 1);
            due(of + ", item " + i, x.changes(3, lane, 0, 1, 0), want[i]);
        }
    }

    /** "SHEETS 0 .. 3 .. a LANE: 0 bytes, 1 shorts, 2 ints, 3 longs": each is a row of its lane alone. */
    private static void eachSheetEachLane() {
        for (int sheet = 0; sheet < 4; sheet++) {
            for (int lane = 0; lane < 4; lane++) {
                GlebeVowels x = new GlebeVowels();
                due("item of nothing", x.item(sheet, lane, 0, 1), NULL);
                due("sheet(" + sheet + ", " + lane + ", 3)", x.sheet(sheet, lane, 3), 3);
                for (int other = 0; other < 4; other++) {
                    due("sheet " + sheet + " of lane " + lane + " as " + other, x.item(sheet, other, 2, 1), other == lane ? 1 : CAST);
                    due("sheet " + other + " beside " + sheet, x.item(other, lane, 2, 1), other == sheet ? 1 : NULL);
                }
            }
        }
        GlebeVowels x = new GlebeVowels();
        Due.range("sheet(sheet, 0, 1)", 0, 3, sheet -> x.sheet(sheet, 0, 1));
        Due.range("sheet(0, lane, 1)", 0, 3, lane -> x.sheet(0, lane, 1));
        Due.range("drop(sheet)", 0, 3, sheet -> x.drop(sheet));
        x.sheet(0, 2, 1);
        Due.range("item(sheet, 2, 0, 1)", 0, 3, sheet -> x.item(sheet, 2, 0, 1));
        Due.range("item(0, lane, 0, 1)", 0, 3, lane -> x.item(0, lane, 0, 1));
        Due.range("copy(from, 0, 0, 0, 1)", 0, 3, from -> x.copy(from, 0, 0, 0, 1));
        Due.range("copy(0, 0, to, 0, 1)", 0, 3, to -> x.copy(0, 0, to, 0, 1));
        Due.range("changes(sheet, 2, 0, 1, 0)", 0, 3, sheet -> x.changes(sheet, 2, 0, 1, 0));
        Due.range("changes(0, lane, 0, 1, 0)", 0, 3, lane -> x.changes(0, lane, 0, 1, 0));
    }

    /** "of 0 to 24 items", "BAD: also n above 24; SIZE: n below 0". */
    private static void eachSize() {
        for (int n = -30; n <= 60; n++) {
            GlebeVowels x = new GlebeVowels();
            due("sheet(1, 2, " + n + ")", x.sheet(1, 2, n), n < 0 ? SIZE : n > 24 ? BAD : n);
            boolean made = n >= 0 && n <= 24;
            for (int i = -2; i < 27; i++) {
                due("item " + i + " of " + n, x.item(1, 2, i, i), !made ? NULL : i >= 0 && i < n ? i : INDEX);
            }
            due("drop of " + n, x.drop(1), made ? n : NULL);
        }
        GlebeVowels x = new GlebeVowels();
        for (int n : new int[] {25, 26, 256, 1 << 16, MAX}) {
            due("sheet(0, 0, " + n + ")", x.sheet(0, 0, n), BAD);
            due("sheet(4, 0, " + n + ")", x.sheet(4, 0, n), BAD);
        }
        for (int n : new int[] {-1, -2, -24, -256, MIN}) {
            due("sheet(0, 0, " + n + ")", x.sheet(0, 0, n), SIZE);
            due("sheet(4, 0, " + n + ")", x.sheet(4, 0, n), BAD);
            due("sheet(-1, 0, " + n + ")", x.sheet(-1, 0, n), BAD);
            due("sheet(0, 4, " + n + ")", x.sheet(0, 4, n), BAD);
            due("sheet(0, -1, " + n + ")", x.sheet(0, -1, n), BAD);
        }
        due("nothing yet", x.drop(0), NULL);
    }

    /** "a new row .. of n items 0": what stood there is gone; the other sheets stay; a refused one leaves all. */
    private static void aNewRow() {
        GlebeVowels x = new GlebeVowels();
        fill(x, 0, 1, 1, 2, 3, 4);
        fill(x, 1, 1, 4, 3, 2, 1);
        due("refused", x.sheet(0, 1, 25), BAD);
        due("refused", x.sheet(0, 1, -1), SIZE);
        items("refused ones leave it", x, 0, 1, 1, 2, 3, 4);
        due("a new one", x.sheet(0, 1, 4), 4);
        items("new", x, 0, 1, 0, 0, 0, 0);
        items("the other one", x, 1, 1, 4, 3, 2, 1);
        due("another lane", x.sheet(1, 3, 2), 2);
        due("the lane before", x.item(1, 1, 0, 1), CAST);
        items("another lane", x, 1, 3, 0, 0);
    }

    /** "A SHEET holds nothing: how many items it had. BAD; NULL." */
    private static void dropped() {
        GlebeVowels x = new GlebeVowels();
        for (int sheet = 0; sheet < 4; sheet++) {
            due("nothing at first", x.drop(sheet), NULL);
            x.sheet(sheet, sheet, 24 - sheet);
        }
        for (int sheet : new int[] {-1, 4, 5, MIN, MAX, NONE}) {
            due("drop(" + sheet + ")", x.drop(sheet), BAD);
        }
        due("drop(2)", x.drop(2), 22);
        due("drop(2) again", x.drop(2), NULL);
        due("no row to put in", x.item(2, 2, 0, 1), NULL);
        due("no row to copy from", x.copy(2, 0, 1, 0, 0), NULL);
        due("no row to copy to", x.copy(1, 0, 2, 0, 0), NULL);
        due("no row of changes", x.changes(2, 2, 0, 1, NONE), NULL);
        due("drop(0)", x.drop(0), 24);
        due("drop(1)", x.drop(1), 23);
        due("drop(3)", x.drop(3), 21);
        x.sheet(3, 0, 0);
        due("a row of no items is a row", x.drop(3), 0);
        due("and then none", x.drop(3), NULL);
    }

    /** "Item i of a SHEET ..: what it is then. .. INDEX": the first and the last; it alone changes. */
    private static void eachItem() {
        for (int lane = 0; lane < 4; lane++) {
            GlebeVowels x = new GlebeVowels();
            x.sheet(0, lane, 4);
            for (int i : new int[] {-1, 4, 5, 24, MIN, MAX, -4}) {
                due("item " + i + " of four", x.item(0, lane, i, 3), INDEX);
            }
            items("none changed", x, 0, lane, 0, 0, 0, 0);
            due("the last", x.item(0, lane, 3, 4), 4);
            items("the last", x, 0, lane, 0, 0, 0, 4);
            due("the first", x.item(0, lane, 0, 2), 2);
            items("the first", x, 0, lane, 2, 0, 0, 4);
            due("the first anew", x.item(0, lane, 0, 1), 1);
            items("the first anew", x, 0, lane, 1, 0, 0, 4);
            x.sheet(1, lane, 24);
            due("the last of 24", x.item(1, lane, 23, 7), 7);
            due("behind the last of 24", x.item(1, lane, 24, 7), INDEX);
            x.sheet(1, lane, 0);
            due("the first of none", x.item(1, lane, 0, 7), INDEX);
        }
    }

    /** "becomes v, its lowest bits (read with their sign)": about each power of two, in each lane. */
    private static void lowestBits() {
        for (int bit = 0; bit < 64; bit++) {
            GlebeVowels x = new GlebeVowels();
            for (int lane = 0; lane < 4; lane++) {
                x.sheet(lane, lane, 1);
            }
            for (int more = -2; more <= 2; more++) {
                for (int sign = -1; sign <= 1; sign += 2) {
                    long v = sign * ((1L << bit) + more);
                    due("byte of " + v, x.item(0, 0, 0, v), (byte) v);
                    due("short of " + v, x.item(1, 1, 0, v), (short) v);
                    due("int of " + v, x.item(2, 2, 0, v), (int) v);
                    due("long of " + v, x.item(3, 3, 0, v), v);
                }
            }
        }
        GlebeVowels x = new GlebeVowels();
        x.sheet(0, 0, 2);
        due("a byte of 257 is 1", x.item(0, 0, 0, 257), 1);
        due("a byte of -252 is 4", x.item(0, 0, 1, -252), 4);
        due("and a vowel", x.changes(0, 0, 0, 1, 1), 4);
    }

    /** "INDEX (n below 0, too; with n 0, too, where i, j is below 0, or above how many there are)": all near the edges. */
    private static void eachCopy() {
        int[] far = {-2, -1, 0, 1, 2, 3, 4, 5, 6, 7, MIN, MAX};
        for (int i : far) {
            for (int j : far) {
                for (int n : far) {
                    GlebeVowels x = new GlebeVowels();
                    fill(x, 0, 0, 1, 2, 3, 4, 1);
                    fill(x, 1, 0, 4, 4, 4, 4);
                    boolean fits = i >= 0 && j >= 0 && n >= 0 && (long) i + n <= 5 && (long) j + n <= 4;
                    due("copy(0, " + i + ", 1, " + j + ", " + n + ")", x.copy(0, i, 1, j, n), fits ? n : INDEX);
                    int[] now = {4, 4, 4, 4};
                    for (int k = 0; fits && k < n; k++) {
                        now[j + k] = new int[] {1, 2, 3, 4, 1}[i + k];
                    }
                    items("behind copy(0, " + i + ", 1, " + j + ", " + n + ")", x, 1, 0, now);
                    items("ahead of it", x, 0, 0, 1, 2, 3, 4, 1);
                }
            }
        }
    }

    /** "to another one (or the same) .., as if all were taken ahead". */
    private static void copyBetween() {
        int[] row = {0, 1, 2, 3, 4, 2};
        for (int i = 0; i <= 6; i++) {
            for (int j = 0; j <= 6; j++) {
                for (int n = 0; n <= 7; n++) {
                    GlebeVowels x = new GlebeVowels();
                    fill(x, 2, 3, row);
                    boolean fits = i + n <= 6 && j + n <= 6;
                    due("copy(2, " + i + ", 2, " + j + ", " + n + ")", x.copy(2, i, 2, j, n), fits ? n : INDEX);
                    int[] now = row.clone();
                    for (int k = 0; fits && k < n; k++) {
                        now[j + k] = row[i + k];
                    }
                    items("behind copy(2, " + i + ", 2, " + j + ", " + n + ")", x, 2, 3, now);
                }
            }
        }
    }

    /** Of rows without items nothing can be copied but nothing, from 0 to 0. */
    private static void copyOfNone() {
        GlebeVowels x = new GlebeVowels();
        x.sheet(0, 0, 0);
        x.sheet(1, 0, 24);
        due("none to none", x.copy(0, 0, 0, 0, 0), 0);
        due("none to the end", x.copy(0, 0, 1, 24, 0), 0);
        due("none behind the end", x.copy(0, 0, 1, 25, 0), INDEX);
        due("none from behind the end", x.copy(1, 25, 0, 0, 0), INDEX);
        due("none from 1", x.copy(0, 1, 1, 0, 0), INDEX);
        due("one", x.copy(0, 0, 1, 0, 1), INDEX);
        due("one to none", x.copy(1, 0, 0, 0, 1), INDEX);
        due("all 24", x.copy(1, 0, 1, 0, 24), 24);
        due("25", x.copy(1, 0, 1, 0, 25), INDEX);
        due("24 from 1", x.copy(1, 1, 1, 0, 24), INDEX);
        due("23 from 1", x.copy(1, 1, 1, 0, 23), 23);
    }

    /** "NULL (either); CAST: of unlike LANES". */
    private static void copyOfEachLane() {
        for (int a = 0; a < 4; a++) {
            for (int b = 0; b < 4; b++) {
                GlebeVowels x = new GlebeVowels();
                x.sheet(0, a, 2);
                due("to nothing", x.copy(0, 0, 1, 0, 1), NULL);
                due("from nothing", x.copy(1, 0, 0, 0, 1), NULL);
                x.sheet(1, b, 2);
                x.item(0, a, 1, 3);
                due("copy of lane " + a + " to " + b, x.copy(0, 1, 1, 0, 1), a == b ? 1 : CAST);
                due("copy of none of lane " + a + " to " + b, x.copy(0, 0, 1, 0, 0), a == b ? 0 : CAST);
                due("copy too far of lane " + a + " to " + b, x.copy(0, 2, 1, 0, 1), a == b ? INDEX : CAST);
                items("lane " + a + " to " + b, x, 1, b, a == b ? 3 : 0, 0);
            }
        }
        GlebeVowels x = new GlebeVowels();
        x.sheet(0, 3, 1);
        x.sheet(1, 3, 2);
        x.item(0, 3, 0, (1L << 40) + 2);
        due("a long in full", x.copy(0, 0, 1, 1, 1), 1);
        due("is no vowel there, either", x.changes(1, 3, 0, 1, 0), NOT);
    }

    /** "1, 2, .. n YEARS (1 .. 24), an item each, .. from i on: n. BAD; NULL; CAST; INDEX." */
    private static void eachFilm() {
        for (int size : new int[] {0, 1, 5, 23, 24}) {
            GlebeVowels x = Due.on("lpp;a;1;y;eioua");
            x.sheet(0, 0, size);
            for (int n = -1; n <= 26; n++) {
                for (int i : new int[] {-1, 0, 1, size - n, size - n + 1, size, MIN, MAX}) {
                    boolean fits = i >= 0 && (long) i + n <= size;
                    int want = n < 1 || n > 24 ? BAD : fits ? n : INDEX;
                    due("film(0, " + n + ", 0, 0, " + i + ") of " + size, x.film(0, n, 0, 0, i), want);
                }
            }
        }
        GlebeVowels x = Due.on("lpp;a;1;y;eioua");
        x.sheet(0, 0, 24);
        Due.range("film(one, 1, 0, 0, 0)", 0, 1, one -> x.film(one, 1, 0, 0, 0));
        Due.range("film(0, n, 0, 0, 0)", 1, 24, n -> x.film(0, n, 0, 0, 0));
        Due.range("film(0, 1, sheet, 0, 0)", 0, 3, sheet -> x.film(0, 1, sheet, 0, 0));
        Due.range("film(0, 1, 0, lane, 0)", 0, 3, lane -> x.film(0, 1, 0, lane, 0));
    }

    /** "comes to a SHEET, taken as a row of a LANE, from i on": the items ahead and behind stay. */
    private static void filmOfEachLane() {
        for (int lane = 0; lane < 4; lane++) {
            GlebeVowels x = Due.on("lp;a-;0.;y;eaiou");
            due("nothing", x.film(0, 3, 1, lane, 0), NULL);
            fill(x, 1, lane, 4, 4, 4, 4, 4, 4);
            for (int other = 0; other < 4; other++) {
                if (other != lane) {
                    due("lane " + lane + " as " + other, x.film(0, 3, 1, other, 1), CAST);
                    due("lane " + lane + " as " + other + ", too far", x.film(0, 3, 1, other, 4), CAST);
                }
            }
            due("too far", x.film(0, 3, 1, lane, 4), INDEX);
            items("refused ones write none", x, 1, lane, 4, 4, 4, 4, 4, 4);
            due("film in lane " + lane, x.film(0, 3, 1, lane, 1), 3);
            items("film in lane " + lane, x, 1, lane, 4, 2, 1, 2, 4, 4);
            due("film to the end", x.film(0, 3, 1, lane, 3), 3);
            items("film to the end", x, 1, lane, 4, 2, 1, 2, 1, 2);
        }
    }

    /** The k-th item is what one SAYS BEHIND k YEARS, 24 of them; nothing else changes. */
    private static void filmTellsBehind() {
        GlebeVowels x = Due.on("lpbr;a-u-/----;01../....;y;iaeuu");
        for (int one = 0; one < 3; one++) {
            x.sheet(0, 2, 24);
            due("film of 24", x.film(one, 24, 0, 2, 0), 24);
            x.sheet(1, 2, 2);
            x.sheet(2, 2, 2);
            for (int k = 1; k <= 24; k++) {
                int said = x.behind(one, k);
                x.copy(0, k - 1, 1, 1, 1);
                x.item(2, 2, 1, said);
                due("item " + k + " is a vowel, " + one, x.changes(1, 2, 0, 1, NONE), said < 5 ? 625 : NOT);
                due("item " + k + " of " + one, x.changes(1, 2, 0, 1, 0), said < 5 ? said : NOT);
            }
        }
        due("the year is the same", x.count(3), 0);
        due("no act", x.count(6), 0);
        due("the sound is the same", x.cell(0, 0), 0);
    }

    /** "how many changes (of five VOWELS each) there are ..; by the first one .. what a VOWEL becomes; NONE": all of two pairs. */
    private static void eachChange() {
        for (int way = 0; way < 625; way++) {
            GlebeVowels x = new GlebeVowels();
            int[] pair = {way / 125, way / 25 % 5, way / 5 % 5, way % 5};
            fill(x, 0, 1, pair);
            String of = " of " + pair[0] + pair[1] + pair[2] + pair[3];
            boolean one = pair[0] == pair[2];
            boolean never = one && pair[1] != pair[3];
            due("how many" + of, x.changes(0, 1, 0, 2, NONE), never ? 0 : one ? 625 : 125);
            due("how many by the first" + of, x.changes(0, 1, 0, 1, NONE), 625);
            for (int v = 0; v < 5; v++) {
                int to = v == pair[0] ? pair[1] : v == pair[2] ? pair[3] : 0;
                due("what " + v + " becomes" + of, x.changes(0, 1, 0, 2, v), never ? NONE : to);
                due("what " + v + " becomes by the second" + of, x.changes(0, 1, 2, 1, v), v == pair[2] ? pair[3] : 0);
                due("what " + v + " becomes amid" + of, x.changes(0, 1, 1, 1, v), v == pair[1] ? pair[2] : 0);
            }
        }
        GlebeVowels x = new GlebeVowels();
        x.sheet(0, 1, 24);
        Due.range("changes(0, 1, 0, 1, vowel)", 0, 4, vowel -> x.changes(0, 1, 0, 1, vowel));
        Due.range("changes(0, 1, 0, n, 0)", 1, 12, n -> x.changes(0, 1, 0, n, 0));
        due("vowel NONE", x.changes(0, 1, 0, 1, NONE), 625);
        due("vowel -3", x.changes(0, 1, 0, 1, -3), BAD);
        due("vowel -5", x.changes(0, 1, 0, 1, -5), BAD);
    }

    /** "n pairs (1 to 12): 2 n items": up to the last item, and no further. */
    private static void changesOfTwelve() {
        GlebeVowels x = new GlebeVowels();
        int[] items = new int[24];
        for (int k = 0; k < 12; k++) {
            items[2 * k] = k % 5;
            items[2 * k + 1] = (k % 5 + 2) % 5;
        }
        fill(x, 0, 0, items);
        int[] ways = {0, 625, 125, 25, 5, 1, 1, 1, 1, 1, 1, 1, 1};
        for (int n = 1; n <= 12; n++) {
            due("ways by " + n, x.changes(0, 0, 0, n, NONE), ways[n]);
            due("u by " + n, x.changes(0, 0, 0, n, 4), n < 5 ? 0 : 1);
            due("the last " + n, x.changes(0, 0, 24 - 2 * n, n, NONE), ways[n]);
            due("one further, " + n, x.changes(0, 0, 25 - 2 * n, n, NONE), INDEX);
            due("from -1, " + n, x.changes(0, 0, -1, n, NONE), INDEX);
        }
        x.item(0, 0, 23, 0);
        due("the last pair is otherwise", x.changes(0, 0, 0, 12, NONE), 0);
        due("NONE then", x.changes(0, 0, 0, 12, 0), NONE);
        due("without it", x.changes(0, 0, 0, 11, NONE), 1);
        x.sheet(1, 0, 1);
        due("one item is no pair", x.changes(1, 0, 0, 1, NONE), INDEX);
        x.sheet(1, 0, 2);
        due("two are one", x.changes(1, 0, 0, 1, NONE), 625);
        x.sheet(1, 0, 3);
        due("three are not two", x.changes(1, 0, 0, 2, NONE), INDEX);
    }

    /** "NOT: an item that is no VOWEL" among those that are asked, and only there. */
    private static void changesOfNoVowel() {
        for (int lane = 0; lane < 4; lane++) {
            long[] none = {5, -1, 6, 31, 127, -128, Long.MIN_VALUE + 5, 1L << 32 | 5, MIN + 7L, 0x1_0000_FFFFL, 5 - 256};
            for (long v : none) {
                for (int at = 0; at < 6; at++) {
                    GlebeVowels x = new GlebeVowels();
                    fill(x, 2, lane, 1, 2, 3, 4, 0, 1);
                    long is = x.item(2, lane, at, v);
                    boolean vowel = is >= 0 && is <= 4;
                    String of = " with " + is + " at " + at + " in lane " + lane;
                    due("changes(2, .., 0, 3, NONE)" + of, x.changes(2, lane, 0, 3, NONE) == NOT ? 1 : 0, vowel ? 0 : 1);
                    due("changes(2, .., 0, 1, 1)" + of, x.changes(2, lane, 0, 1, 1) == NOT ? 1 : 0, vowel || at > 1 ? 0 : 1);
                    due("changes(2, .., 4, 1, 0)" + of, x.changes(2, lane, 4, 1, 0) == NOT ? 1 : 0, vowel || at < 4 ? 0 : 1);
                    due("changes(2, .., 1, 2, 4)" + of, x.changes(2, lane, 1, 2, 4) == NOT ? 1 : 0, vowel || at == 0 || at == 5 ? 0 : 1);
                    due("changes(2, .., 4, 2, 0)" + of, x.changes(2, lane, 4, 2, 0), INDEX);
                }
            }
        }
        GlebeVowels x = new GlebeVowels();
        fill(x, 0, 2, 1, 2, 1, 3, 5, 0);
        due("NOT ahead of NONE", x.changes(0, 2, 0, 3, 0), NOT);
        due("NOT ahead of 0", x.changes(0, 2, 0, 3, NONE), NOT);
        due("NONE without it", x.changes(0, 2, 0, 2, 0), NONE);
        due("0 without it", x.changes(0, 2, 0, 2, NONE), 0);
    }

    /** "(but 7: 0 without a LAND)". */
    private static void countWithoutLand() {
        GlebeVowels x = new GlebeVowels();
        Due.range("count(what) without a land", 0, 9, what -> x.count(what));
        for (int tape = 0; tape <= 130; tape++) {
            for (int what = 0; what <= 9; what++) {
                if (what == 7 || tape % 65 == 0) {
                    due("count(" + what + ") without a land, a tape of " + tape, x.count(what), what == 7 ? tape : 0);
                }
            }
            x.feed('l');
        }
    }

    private static void counts(String land, int... want) {
        GlebeVowels x = Due.on(land);
        for (int what = 0; what <= 9; what++) {
            due("count(" + what + ") on " + land, x.count(what), want[what]);
        }
        Due.range("count(what) on " + land, 0, 9, what -> x.count(what));
    }

    /** The least and the greatest LAND, with all and with none of nobody, all VOWELS and none. */
    private static void countAtTheEdges() {
        counts("lp;-;.;y;aaaaa", 1, 1, 1, 0, 1, 1, 0, 0, 0, 0);
        counts("lp;u;0;y;aaaaa", 1, 1, 1, 0, 1, 0, 0, 0, 16, 16);
        counts("lr;u;.;y;aaaaa", 1, 1, 1, 0, 1, 1, 0, 0, 16, 16);
        counts("lr;u;0;y;aaaaa", 1, 1, 1, 0, 1, 0, 0, 0, 16, 0);
        counts("lpppppp;aeiou-;012345;a,b,c,d;aaaaa", 6, 6, 1, 0, 4, 0, 0, 0, 31, 31);
        counts("lpppppp;a/e/i/o/u/-;./././././.;a,b;aaaaa", 6, 1, 6, 0, 2, 6, 0, 0, 31, 0);
        String row = "/iiiiii".repeat(6).substring(1);
        counts("lnnnnnn;" + row + ";" + row.replace('i', '.') + ";a,b,c;aaaaa", 6, 6, 6, 0, 3, 36, 0, 0, 4, 4);
        counts("lbp;" + row + ";" + row.replace('i', '1') + ";a;aaaaa", 2, 6, 6, 0, 1, 0, 0, 0, 4, 12);
        GlebeVowels x = Due.on("lp;i;0;y;aaaaa");
        for (int k = 1; k <= 30; k++) {
            x.plough(0, k % 6);
            due("count(6) behind " + k, x.count(6), Math.min(k, 24));
            due("count(8) behind " + k, x.count(8), k % 6 == 5 ? 0 : 1 << k % 6);
            due("count(9) behind " + k, x.count(9), k % 6 == 5 ? 0 : 1 << k % 6);
        }
        x.year();
        due("count(3)", x.count(3), 1);
        due("count(6)", x.count(6), 24);
    }
}
