/** Promises 8 to 13: sales, ploughing, years, what is undone, images. */
public final class ActsTest {
    private static final String SMALL = "lpbn;aei/ou-;01./2.0;cat,queue;eioua";
    private static final int BAD = GlebeVowels.BAD;
    private static final int NOT = GlebeVowels.NOT;
    private static final int NONE = GlebeVowels.NONE;

    private ActsTest() {
    }

    public static void main(String[] args) {
        sell();
        plough();
        year();
        yearOfUnlikeChanges();
        lastYear();
        undo();
        undoTwentyFour();
        undoOfYears();
        image();
        restore();
        restoreOfAnotherLand();
        Due.end();
    }

    private static void due(String call, long got, long want) {
        Due.due(call, got, want);
    }

    /** Promise 8. */
    private static void sell() {
        GlebeVowels x = Due.on(SMALL);
        due("8: to another", x.sell(0, 2), 0);
        due("8: his now", x.cell(0, 1), 2);
        due("8: cells of the one before", x.holder(0, 1), 1);
        due("8: cells of the one now", x.holder(2, 1), 2);
        due("8: sounds stay", x.cell(0, 0), 0);
        due("8: of nobody, to one", x.sell(2, 1), NONE);
        due("8: fewer of nobody", x.count(5), 1);
        due("8: to nobody", x.sell(1, NONE), 1);
        due("8: of nobody then", x.cell(1, 1), NONE);
        due("8: acts", x.count(6), 3);
        due("8: he holds it", x.sell(0, 2), NOT);
        due("8: nobody holds it", x.sell(9, NONE), NOT);
        due("8: no such cell", x.sell(3, 0), BAD);
        due("8: no such cell, nobody", x.sell(16, NONE), BAD);
        due("8: cell -1", x.sell(-1, 0), BAD);
        due("8: no such holder", x.sell(0, 3), BAD);
        due("8: holder -1", x.sell(0, -1), BAD);
        due("8: holder -5", x.sell(0, -5), BAD);
        due("8: refused ones are no acts", x.count(6), 3);
        due("8: no land", new GlebeVowels().sell(0, NONE), BAD);
        due("8: what is said follows", x.holder(1, 3), Due.set(2, 3));
    }

    /** Promise 9. */
    private static void plough() {
        GlebeVowels x = Due.on(SMALL);
        due("9: a to u", x.plough(0, 4), 0);
        due("9: u now", x.cell(0, 0), 4);
        due("9: whose stays", x.cell(0, 1), 0);
        due("9: air to e", x.plough(10, 1), 5);
        due("9: e now", x.cell(10, 0), 1);
        due("9: o to air", x.plough(8, 5), 3);
        due("9: air now", x.cell(8, 0), 5);
        due("9: acts", x.count(6), 3);
        due("9: it has it", x.plough(0, 4), NOT);
        due("9: it has it, air", x.plough(8, 5), NOT);
        due("9: no such sound", x.plough(0, 6), BAD);
        due("9: sound -1", x.plough(0, -1), BAD);
        due("9: no such cell", x.plough(3, 0), BAD);
        due("9: cell -1", x.plough(-1, 0), BAD);
        due("9: refused ones are no acts", x.count(6), 3);
        due("9: vowels of cells", x.count(8), Due.set(1, 2, 4));
        due("9: says", x.holder(0, 3), Due.set(1, 4));
        due("9: no land", new GlebeVowels().plough(0, 0), BAD);
    }

    /** Promise 10. */
    private static void year() {
        due("10: no land", new GlebeVowels().year(), NOT);
        GlebeVowels x = Due.on(SMALL);
        due("10: five cells", x.year(), 5);
        int[] cells = {0, 1, 2, 8, 9, 10};
        int[] sounds = {1, 2, 3, 4, 0, 5};
        for (int k = 0; k < cells.length; k++) {
            due("10: sound of " + cells[k], x.cell(cells[k], 0), sounds[k]);
        }
        due("10: year 1", x.count(3), 1);
        due("10: an act", x.count(6), 1);
        due("10: whose stays", x.cell(0, 1), 0);
        x.year();
        due("10: year 2", x.count(3), 2);
    }

    /** Promise 10: changes that keep some vowels or throw some together. */
    private static void yearOfUnlikeChanges() {
        GlebeVowels same = Due.on("lp;aeiou-;0.....;a;aeiou");
        due("10: all stay", same.year(), 0);
        due("10: all stay, yet a year", same.count(3), 1);
        due("10: all stay, yet an act", same.count(6), 1);
        GlebeVowels swap = Due.on("lp;aaeeio;0.....;a;eaiou");
        due("10: a and e swap, all at once", swap.year(), 4);
        due("10: a is e", swap.cell(0, 0), 1);
        due("10: e is a", swap.cell(2, 0), 0);
        GlebeVowels one = Due.on("lp;aeiou-;0.....;a;uuuuu");
        due("10: all become u", one.year(), 4);
        due("10: then none", one.year(), 0);
        due("10: u alone", one.count(8), Due.set(4));
    }

    /** Promise 10: FULL. No object gets there by its first 512 calls; this class counts on. */
    private static void lastYear() {
        GlebeVowels x = Due.on(SMALL);
        for (int year = 1; year < 9999; year++) {
            x.year();
        }
        due("10: the last one", x.year(), 5);
        due("10: year 9999", x.count(3), 9999);
        due("10: no more", x.year(), GlebeVowels.FULL);
        due("10: year 9999 still", x.count(3), 9999);
        due("10: undone", x.undo(), 23);
        due("10: once more", x.year(), 5);
        due("10: no more again", x.year(), GlebeVowels.FULL);
    }

    /** Promise 11. */
    private static void undo() {
        due("11: no land", new GlebeVowels().undo(), NONE);
        GlebeVowels x = Due.on(SMALL);
        due("11: none yet", x.undo(), NONE);
        x.sell(0, 1);
        x.plough(0, 3);
        x.year();
        x.sell(2, 0);
        due("11: the sale", x.undo(), 3);
        due("11: of nobody again", x.cell(2, 1), NONE);
        due("11: year 1 still", x.count(3), 1);
        due("11: the year", x.undo(), 2);
        due("11: year 0", x.count(3), 0);
        due("11: o again", x.cell(0, 0), 3);
        due("11: i again", x.cell(2, 0), 2);
        due("11: the ploughing", x.undo(), 1);
        due("11: a again", x.cell(0, 0), 0);
        due("11: still sold", x.cell(0, 1), 1);
        due("11: the first sale", x.undo(), 0);
        due("11: as at first", x.cell(0, 1), 0);
        due("11: none now", x.undo(), NONE);
        due("11: count(6)", x.count(6), 0);
        x.plough(1, 5);
        due("11: acts anew", x.count(6), 1);
        due("11: undone anew", x.undo(), 0);
        due("11: e again", x.cell(1, 0), 1);
    }

    /** Promise 11: the latest 24. */
    private static void undoTwentyFour() {
        GlebeVowels x = Due.on(SMALL);
        for (int k = 1; k <= 30; k++) {
            x.plough(0, k % 5);
            due("11: after " + k + " acts", x.count(6), Math.min(k, 24));
        }
        for (int k = 29; k >= 6; k--) {
            due("11: undone to " + k, x.undo(), k - 6);
            due("11: sound behind " + k, x.cell(0, 0), k % 5);
        }
        due("11: the seventh act is the eldest", x.undo(), NONE);
        due("11: what it left", x.cell(0, 0), 1);
        for (int k = 0; k < 24; k++) {
            x.sell(0, k % 2 == 0 ? 1 : 0);
        }
        due("11: full again", x.count(6), 24);
        due("11: undone again", x.undo(), 23);
    }

    /** Promise 11: a year that threw sounds together comes back. */
    private static void undoOfYears() {
        GlebeVowels x = Due.on("lp;aeiou-;0....0;a;aaaaa");
        for (int k = 0; k < 3; k++) {
            x.year();
        }
        due("11: a alone", x.count(8), Due.set(0));
        x.undo();
        x.undo();
        due("11: a alone still", x.count(8), Due.set(0));
        due("11: the first year", x.undo(), 0);
        for (int v = 0; v < 6; v++) {
            due("11: sound of " + v, x.cell(v, 0), v);
        }
        due("11: whose", x.cell(5, 1), 0);
    }

    /** Promise 12. */
    private static void image() {
        GlebeVowels none = new GlebeVowels();
        due("12: no land", none.image(0), NOT);
        due("12: bad ahead of no land", none.image(2), BAD);
        GlebeVowels x = Due.on(SMALL);
        due("12: year 0", x.image(0), 0);
        x.year();
        x.year();
        due("12: year 2", x.image(1), 2);
        due("12: image -1", x.image(-1), BAD);
        due("12: image 2", x.image(2), BAD);
        due("12: acts stay", x.count(6), 2);
        due("12: undone", x.undo(), 1);
        x.year();
        x.year();
        due("12: kept anew", x.image(1), 3);
        due("12: the newer one", x.restore(1), 3);
        due("12: the other one", x.restore(0), 0);
    }

    /** Promise 13. */
    private static void restore() {
        GlebeVowels x = Due.on(SMALL);
        due("13: none kept", x.restore(0), NOT);
        x.sell(0, 1);
        x.plough(1, 5);
        x.year();
        x.image(0);
        due("13: the other one was not kept", x.restore(1), NOT);
        due("13: image -1", x.restore(-1), BAD);
        due("13: image 2", x.restore(2), BAD);
        due("13: refused ones leave the acts", x.count(6), 3);
        x.sell(0, 2);
        x.plough(1, 0);
        x.year();
        due("13: restored", x.restore(0), 1);
        due("13: whose", x.cell(0, 1), 1);
        due("13: sound", x.cell(1, 0), 5);
        due("13: sound by the year", x.cell(0, 0), 1);
        due("13: year", x.count(3), 1);
        due("13: nothing can be undone", x.count(6), 0);
        due("13: undo", x.undo(), NONE);
        x.plough(1, 3);
        due("13: the image is as it was", x.restore(0), 1);
        due("13: the image's sound", x.cell(1, 0), 5);
        due("13: a year more", x.year(), 4);
        due("13: year 2", x.count(3), 2);
    }

    /** Promise 13: words, HOLDERS and change come with the image. */
    private static void restoreOfAnotherLand() {
        GlebeVowels x = Due.on(SMALL);
        x.image(1);
        Due.read(x, "lhhhh;u;3;y;aaaaa");
        due("13: another land", x.count(0), 4);
        due("13: restored", x.restore(1), 0);
        due("13: holders", x.count(0), 3);
        due("13: kind", x.holder(1, 0), 2);
        due("13: columns", x.count(1), 3);
        due("13: rows", x.count(2), 2);
        due("13: words", x.count(4), 2);
        due("13: letters", x.word(1, 0), 5);
        due("13: vowels", x.word(1, 1), Due.set(1, 4));
        due("13: whose", x.cell(8, 1), 2);
        due("13: the change", x.year(), 5);
    }
}
