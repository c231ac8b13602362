import java.util.Arrays;

/** Promises 8 to 13, sentence by sentence: acts, the 24 of them that can be undone, and images. */
public final class ActsEdgesTest {
    private static final int BAD = GlebeVowels.BAD;
    private static final int NOT = GlebeVowels.NOT;
    private static final int NONE = GlebeVowels.NONE;
    private static final int[] FAR = {Integer.MIN_VALUE, -64, -8, -6, -5, -3, -2, -1, 6, 7, 8, 64, Integer.MAX_VALUE};

    private ActsEdgesTest() {
    }

    public static void main(String[] args) {
        everySale();
        buyers();
        everyPloughing();
        cells();
        everyChange();
        yearOfManyCells();
        undoEachNumber();
        undoEachKind();
        undoInTurns();
        noActs();
        undoBehindRestoreAndLand();
        images();
        imagesStay();
        restoreTwice();
        imageOfTheEmpty();
        Due.end();
    }

    private static void due(String call, long got, long want) {
        Due.due(call, got, want);
    }

    private static GlebeVowels six() {
        return Due.on("lpbnrhp;aeiou-/aeiou-;012345/......;y;eioua");
    }

    /** "A CELL is SOLD to one (NONE: to nobody): who held it (NONE). BAD; NOT: he does (to nobody: nobody does)." */
    private static void everySale() {
        for (int cell = 0; cell <= 8; cell += cell < 5 ? 1 : 3) {
            int had = cell < 6 ? cell : NONE;
            for (int to = 0; to < 7; to++) {
                int buyer = to == 6 ? NONE : to;
                GlebeVowels x = six();
                due("sell(" + cell + ", " + buyer + ")", x.sell(cell, buyer), buyer == had ? NOT : had);
                due("who has " + cell + " then", x.cell(cell, 1), buyer);
                due("acts then", x.count(6), buyer == had ? 0 : 1);
                due("cells of nobody then", x.count(5), 6 + (buyer == NONE ? 1 : 0) - (had == NONE ? 1 : 0));
                due("sold once more", x.sell(cell, buyer), NOT);
                due("its sound", x.cell(cell, 0), cell % 8);
                due("undone", x.undo(), buyer == had ? NONE : 0);
                due("who has " + cell + " again", x.cell(cell, 1), had);
            }
            for (int buyer : FAR) {
                GlebeVowels x = six();
                due("sell(" + cell + ", " + buyer + ")", x.sell(cell, buyer), BAD);
                due("who has " + cell + " still", x.cell(cell, 1), had);
                due("acts still", x.count(6), 0);
            }
        }
    }

    /** The last HOLDER there is may buy, the next may not. */
    private static void buyers() {
        for (int holders = 1; holders <= 6; holders++) {
            String land = "l" + "r".repeat(holders) + ";ae;..;y;eioua";
            for (int one = 0; one < 8; one++) {
                due("sell(1, " + one + ") of " + holders, Due.on(land).sell(1, one), one < holders ? NONE : BAD);
            }
        }
    }

    /** "A CELL is PLOUGHED: the SOUND (0 .. 5) it had. BAD; NOT: it has it." */
    private static void everyPloughing() {
        for (int had = 0; had < 6; had++) {
            for (int sound = 0; sound < 6; sound++) {
                GlebeVowels x = six();
                due("plough(" + had + ", " + sound + ")", x.plough(had, sound), had == sound ? NOT : had);
                due("its sound then", x.cell(had, 0), sound);
                due("the same sound below", x.cell(8 + had, 0), had);
                due("who has it", x.cell(had, 1), had);
                due("acts then", x.count(6), had == sound ? 0 : 1);
                due("ploughed once more", x.plough(had, sound), NOT);
                due("undone", x.undo(), had == sound ? NONE : 0);
                due("its sound again", x.cell(had, 0), had);
            }
            for (int sound : FAR) {
                GlebeVowels x = six();
                due("plough(" + had + ", " + sound + ")", x.plough(had, sound), BAD);
                due("its sound still", x.cell(had, 0), had);
                due("acts still", x.count(6), 0);
            }
        }
    }

    /** The last CELL of the last row, and of each row, can be sold and ploughed; what lies behind it is none. */
    private static void cells() {
        for (int rows = 1; rows <= 6; rows++) {
            for (int columns = 1; columns <= 6; columns++) {
                String cells = ("/" + "a".repeat(columns)).repeat(rows).substring(1);
                String land = "lp;" + cells + ";" + cells.replace('a', '0') + ";y;eioua";
                GlebeVowels x = Due.on(land);
                for (int number = -10; number < 70; number++) {
                    boolean is = number >= 0 && number / 8 < rows && number % 8 < columns;
                    due("sell(" + number + ", NONE) of " + cells, x.sell(number, NONE), is ? 0 : BAD);
                    due("plough(" + number + ", 1) of " + cells, x.plough(number, 1), is ? 0 : BAD);
                }
                due("all of nobody, " + cells, x.count(5), rows * columns);
            }
        }
    }

    /** "each CELL with a VOWEL sounds as the change tells (all at once)": all 3125 changes. */
    private static void everyChange() {
        for (int way = 0; way < 3125; way++) {
            int[] change = {way / 625, way / 125 % 5, way / 25 % 5, way / 5 % 5, way % 5};
            StringBuilder text = new StringBuilder();
            int otherwise = 0;
            for (int v = 0; v < 5; v++) {
                text.append("aeiou".charAt(change[v]));
                otherwise += change[v] == v ? 0 : v == 2 ? 2 : 1;
            }
            GlebeVowels x = Due.on("lp;aeiou-/-i----;00000./......;y;" + text);
            due("year() by " + text, x.year(), otherwise);
            due("the year by " + text, x.count(3), 1);
            due("an act by " + text, x.count(6), 1);
            for (int v = 0; v < 5; v++) {
                due("what " + v + " became by " + text, x.cell(v, 0), change[v]);
            }
            due("air by " + text, x.cell(5, 0), 5);
            due("the other i by " + text, x.cell(9, 0), change[2]);
            due("undone by " + text, x.undo(), 0);
            due("a again by " + text, x.cell(0, 0), 0);
            due("i again by " + text, x.cell(9, 0), 2);
        }
    }

    /** "how many CELLS sound otherwise": all, none. */
    private static void yearOfManyCells() {
        String row = "/aaaaaa".repeat(6).substring(1);
        String whose = row.replace('a', '.');
        due("all 36", Due.on("lp;" + row + ";" + whose + ";y;eaiou").year(), 36);
        due("none of 36", Due.on("lp;" + row + ";" + whose + ";y;aiouu").year(), 0);
        due("air alone", Due.on("lp;" + row.replace('a', '-') + ";" + whose + ";y;eioua").year(), 0);
        due("35 and air", Due.on("lp;-" + row.substring(1) + ";" + whose + ";y;eioua").year(), 35);
        GlebeVowels none = new GlebeVowels();
        due("no land", none.year(), NOT);
        due("no land, the year", none.count(3), 0);
        due("no land, acts", none.count(6), 0);
        due("no land, undo", none.undo(), NONE);
    }

    /** "the latest 24 can be undone, the latest first": behind each number of acts up to 60. */
    private static void undoEachNumber() {
        for (int acts = 0; acts <= 60; acts++) {
            GlebeVowels x = six();
            for (int k = 0; k < acts; k++) {
                x.year();
            }
            int can = Math.min(acts, 24);
            due("acts that can be undone of " + acts, x.count(6), can);
            for (int k = 1; k <= can; k++) {
                due("undo() " + k + " of " + acts, x.undo(), can - k);
                due("the year then", x.count(3), acts - k);
                due("a sound then", x.cell(0, 0), (acts - k) % 5);
                due("acts then", x.count(6), can - k);
            }
            due("undo() none of " + acts, x.undo(), NONE);
            due("undo() none of " + acts + " still", x.undo(), NONE);
            due("the year still", x.count(3), acts - can);
        }
    }

    /** The first acts of a row of all kinds: a sale, a ploughing, a year, .. */
    private static GlebeVowels behindActs(int acts) {
        GlebeVowels x = six();
        for (int k = 0; k < acts; k++) {
            int cell = k * 5 % 6 + k % 2 * 8;
            if (k % 3 == 0) {
                x.sell(cell, x.cell(cell, 1) == k % 6 ? NONE : k % 6);
            } else if (k % 3 == 1) {
                x.plough(cell, (x.cell(cell, 0) + 1 + k % 5) % 6);
            } else {
                x.year();
            }
            due("acts", x.count(6), Math.min(24, k + 1));
        }
        return x;
    }

    /** Acts of each kind, undone one by one: all cells and the year are as they were ahead of each. */
    private static void undoEachKind() {
        int acts = 41;
        for (int undone = 1; undone <= 25; undone++) {
            GlebeVowels x = behindActs(acts);
            for (int k = 1; k <= undone; k++) {
                due(k + " undone", x.undo(), k > 24 ? NONE : 24 - k);
            }
            GlebeVowels y = behindActs(acts - Math.min(24, undone));
            due("sounds, " + undone + " undone", Arrays.mismatch(all(x, 0), all(y, 0)), -1);
            due("whose, " + undone + " undone", Arrays.mismatch(all(x, 1), all(y, 1)), -1);
            due("the year, " + undone + " undone", x.count(3), y.count(3));
        }
    }

    private static int[] all(GlebeVowels x, int what) {
        int[] told = new int[12];
        for (int k = 0; k < 12; k++) {
            told[k] = x.cell(k % 6 + k / 6 * 8, what);
        }
        return told;
    }

    /** An act behind an undo takes the place of what was undone; 24 are full again. */
    private static void undoInTurns() {
        GlebeVowels x = six();
        for (int k = 0; k < 30; k++) {
            x.year();
        }
        due("one undone", x.undo(), 23);
        x.plough(5, 0);
        due("24 again", x.count(6), 24);
        x.plough(5, 1);
        due("24 still", x.count(6), 24);
        due("the ploughing undone", x.undo(), 23);
        due("a", x.cell(5, 0), 0);
        due("the other ploughing undone", x.undo(), 22);
        due("air", x.cell(5, 0), 5);
        due("the year", x.count(3), 29);
        for (int k = 21; k >= 0; k--) {
            due("undone to " + k, x.undo(), k);
        }
        due("none", x.undo(), NONE);
        due("the year at last", x.count(3), 7);
        x.sell(0, 5);
        due("one", x.count(6), 1);
        due("undone", x.undo(), 0);
        due("none again", x.undo(), NONE);
        due("whose", x.cell(0, 1), 0);
    }

    /** What is no act: what is refused, told, foretold, an image, an undo. */
    private static void noActs() {
        GlebeVowels x = six();
        x.sell(0, 0);
        x.sell(8, NONE);
        x.sell(6, 0);
        x.plough(0, 0);
        x.plough(0, 6);
        x.image(0);
        x.behind(0, 3);
        x.drawn(3, 1, 0);
        x.buys(0, 0, 0);
        x.sheet(0, 0, 3);
        x.film(0, 3, 0, 0, 0);
        due("no act", x.count(6), 0);
        due("none to undo", x.undo(), NONE);
    }

    /** "nothing can be undone then"; acts that come then can, and no further. */
    private static void undoBehindRestoreAndLand() {
        GlebeVowels x = six();
        x.year();
        x.image(1);
        for (int k = 0; k < 26; k++) {
            x.year();
        }
        due("restored", x.restore(1), 1);
        due("nothing can be undone", x.count(6), 0);
        due("undo", x.undo(), NONE);
        due("the image's year", x.count(3), 1);
        x.sell(0, NONE);
        x.year();
        due("two acts", x.count(6), 2);
        due("one undone", x.undo(), 1);
        due("two undone", x.undo(), 0);
        due("none left", x.undo(), NONE);
        due("the image's year again", x.count(3), 1);
        due("whose", x.cell(0, 1), 0);
        x.year();
        due("a land", Due.read(x, "lp;a;0;y;aaaaa"), 1);
        due("nothing to undo", x.undo(), NONE);
        x.plough(0, 5);
        due("undone", x.undo(), 0);
        due("no further", x.undo(), NONE);
        due("the land's own", x.cell(0, 0), 0);
        x.year();
        due("a fault", Due.read(x, "lp;a;0;y;aaaa"), -113);
        due("the act behind a fault", x.undo(), 0);
    }

    /** "An IMAGE (0, 1) is kept of the LAND: the YEAR. BAD; NOT: no LAND." */
    private static void images() {
        GlebeVowels none = new GlebeVowels();
        GlebeVowels x = six();
        for (int k : new int[] {-1, 2, 3, NONE, -256, 256, Integer.MIN_VALUE, Integer.MAX_VALUE}) {
            due("image(" + k + ")", x.image(k), BAD);
            due("image(" + k + ") of no land", none.image(k), BAD);
            due("restore(" + k + ")", x.restore(k), BAD);
            due("restore(" + k + ") of no land", none.restore(k), BAD);
        }
        for (int k = 0; k < 2; k++) {
            due("image(" + k + ") of no land", none.image(k), NOT);
            due("restore(" + k + ") of no land", none.restore(k), NOT);
            due("restore(" + k + "), none kept", x.restore(k), NOT);
        }
        due("image(0)", x.image(0), 0);
        due("restore(1), none kept still", x.restore(1), NOT);
        x.year();
        due("image(1)", x.image(1), 1);
        x.year();
        due("restore(0)", x.restore(0), 0);
        due("restore(1)", x.restore(1), 1);
        GlebeVowels y = six();
        due("image(1) alone", y.image(1), 0);
        due("restore(0), none kept", y.restore(0), NOT);
        due("restore(1) alone", y.restore(1), 0);
    }

    /** An image is of then: acts, undo, a new LAND and a FAULT leave it; a newer one takes its place. */
    private static void imagesStay() {
        GlebeVowels x = six();
        x.plough(0, 4);
        x.image(0);
        x.undo();
        due("undone", x.cell(0, 0), 0);
        due("the image is of then", x.restore(0), 0);
        due("ploughed", x.cell(0, 0), 4);
        x.sell(0, NONE);
        x.plough(0, 3);
        x.year();
        x.restore(0);
        due("ploughed again", x.cell(0, 0), 4);
        due("whose again", x.cell(0, 1), 0);
        due("a fault", Due.read(x, "l"), -101);
        Due.read(x, "lhh;u;1;oo,ii;aaaaa");
        x.image(1);
        due("image 0", x.restore(0), 0);
        due("its holders", x.count(0), 6);
        due("its words", x.count(4), 1);
        due("its columns", x.count(1), 6);
        due("image 1", x.restore(1), 0);
        due("its holders", x.count(0), 2);
        due("its words", x.word(1, 1), 4);
        due("its change", x.year(), 1);
        due("its change's vowel", x.cell(0, 0), 0);
        due("image 0 anew", x.image(0), 1);
        due("image 1 still", x.restore(1), 0);
        due("image 0 then", x.restore(0), 1);
        due("image 0 is the newer one", x.count(0), 2);
    }

    /** "The LAND is as the IMAGE was (nothing can be undone then): the YEAR": as often as it is asked. */
    private static void restoreTwice() {
        GlebeVowels x = six();
        x.year();
        x.year();
        x.image(0);
        for (int k = 0; k < 3; k++) {
            due("restored", x.restore(0), 2);
            due("acts", x.count(6), 0);
            due("sound", x.cell(0, 0), 2);
            x.sell(1, 5);
            x.year();
            due("year", x.count(3), 3);
        }
        x.restore(0);
        due("an image of what was restored", x.image(1), 2);
        due("whose", x.cell(1, 1), 1);
    }

    /** The least LAND can be kept, too. */
    private static void imageOfTheEmpty() {
        GlebeVowels x = Due.on("lr;-;.;y;aaaaa");
        due("kept", x.image(1), 0);
        x.sell(0, 0);
        x.plough(0, 4);
        due("restored", x.restore(1), 0);
        due("of nobody", x.cell(0, 1), NONE);
        due("air", x.cell(0, 0), 5);
    }
}
