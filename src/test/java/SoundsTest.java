/** Promises 1 to 7: a new object, THE TAPE, a LAND, and what is told of it. */
public final class SoundsTest {
    private static final String SMALL = "lpbnrh;aei/ou-/aae;01./234/..0;cat,mouse,x;eioua";
    private static final int BAD = GlebeVowels.BAD;
    private static final int NONE = GlebeVowels.NONE;

    private SoundsTest() {
    }

    public static void main(String[] args) {
        aNewObject();
        feed();
        landIsRead();
        landStandsInPlace();
        faults();
        faultsOfRows();
        faultsOfWordsAndChange();
        holder();
        whatHoldersSay();
        whatHeiressesSay();
        whatCommonVowelsDo();
        cell();
        word();
        as();
        Due.end();
    }

    private static void due(String call, long got, long want) {
        Due.due(call, got, want);
    }

    /** Promise 1. */
    private static void aNewObject() {
        GlebeVowels x = new GlebeVowels();
        for (int what = 0; what <= 9; what++) {
            due("1: new, count(" + what + ")", x.count(what), 0);
        }
        due("1: new, year()", x.year(), -2);
        due("1: new, undo()", x.undo(), -4);
        due("1: new, restore(0)", x.restore(0), -2);
        due("1: new, restore(1)", x.restore(1), -2);
        due("1: new, holder(0, 0)", x.holder(0, 0), -1);
        due("1: new, cell(0, 0)", x.cell(0, 0), -1);
        due("1: new, drop(0)", x.drop(0), -11);
        due("1: new, drop(3)", x.drop(3), -11);
        Due.on(SMALL);
        due("1: another object has no land", new GlebeVowels().count(0), 0);
    }

    /** Promise 2. */
    private static void feed() {
        GlebeVowels x = new GlebeVowels();
        due("2: feed(0)", x.feed(0), 1);
        due("2: feed(255)", x.feed(255), 2);
        due("2: feed(256)", x.feed(256), BAD);
        due("2: feed(-1)", x.feed(-1), BAD);
        due("2: feed(MIN)", x.feed(Integer.MIN_VALUE), BAD);
        due("2: count(7)", x.count(7), 2);
        for (int n = 3; n <= 130; n++) {
            due("2: feed to " + n, x.feed('l'), n);
        }
        due("2: feed to a full tape", x.feed('l'), GlebeVowels.FULL);
        due("2: a bad byte to a full tape", x.feed(256), BAD);
        due("2: count(7), full", x.count(7), 130);
        due("2: the first byte was 0", x.land(), -100);
        due("2: empty then", x.count(7), 0);
        due("2: from 1 again", x.feed('l'), 1);
    }

    /** Promise 3: ordinary texts. */
    private static void landIsRead() {
        GlebeVowels x = new GlebeVowels();
        due("3: small", Due.read(x, SMALL), 5);
        due("3: columns", x.count(1), 3);
        due("3: rows", x.count(2), 3);
        due("3: words", x.count(4), 3);
        due("3: tape", x.count(7), 0);
        due("3: least", Due.read(x, "lp;-;.;y;aaaaa"), 1);
        due("3: least, air", x.cell(0, 0), 5);
        due("3: least, of nobody", x.cell(0, 1), NONE);
        String great = "lpbnrhp;aeiou-/uoieaa/iiiiii/oooooo/------/aaaaau;012345/543210/....../111111/222222/......"
            + ";abcdef,ghijkl,mnopqr,uvwxyz;uuuuu";
        due("3: the greatest", great.length(), 125);
        due("3: greatest", Due.read(x, great), 6);
        due("3: greatest, columns", x.count(1), 6);
        due("3: greatest, rows", x.count(2), 6);
        due("3: greatest, words", x.count(4), 4);
        due("3: greatest, last cell", x.cell(45, 0), 4);
        due("3: greatest, whose", x.cell(13, 1), 0);
        due("3: greatest, last word", x.word(3, 0), 6);
        due("3: one row", Due.read(x, "lpp;aeiou-;01.10.;a;aeiou"), 2);
        due("3: one row, columns", x.count(1), 6);
        due("3: one column", Due.read(x, "lpp;a/e/i;0/1/.;a;aeiou"), 2);
        due("3: one column, rows", x.count(2), 3);
    }

    /** Promise 3: what a new LAND changes, and what a FAULT leaves. */
    private static void landStandsInPlace() {
        GlebeVowels x = Due.on(SMALL);
        x.year();
        x.sell(0, 1);
        x.image(1);
        x.sheet(2, 0, 3);
        Due.read(x, "lpp;ae;01;y;aeiou?");
        due("3: a fault leaves the land", x.count(0), 5);
        due("3: a fault leaves the year", x.count(3), 1);
        due("3: a fault leaves the acts", x.count(6), 2);
        due("3: a fault empties the tape", x.count(7), 0);
        due("3: a fault leaves whose", x.cell(0, 1), 1);
        due("3: bytes of the tape before are gone", Due.read(x, "lpp;ae;01;y;aeio"), -116);
        due("3: all of them", Due.read(x, "l"), -101);
        due("3: in place", Due.read(x, "lpp;ae;01;y;aeiou"), 2);
        due("3: year 0", x.count(3), 0);
        due("3: nothing to undo", x.count(6), 0);
        due("3: undo", x.undo(), NONE);
        due("3: fewer rows", x.cell(8, 0), BAD);
        due("3: fewer words", x.word(1, 0), BAD);
        due("3: whose anew", x.cell(0, 1), 0);
        due("3: of nobody anew", x.count(5), 0);
        due("3: vowels anew", x.count(8), Due.set(0, 1));
        due("3: sheets stay", x.drop(2), 3);
        due("3: images stay", x.restore(1), 1);
        due("3: the image's holders", x.count(0), 5);
    }

    private static void fault(String text, int place) {
        due("3: land of '" + text + "'", Due.read(new GlebeVowels(), text), -100 - place);
    }

    /** Promise 3: faults of HOLDERS, and where parts end. */
    private static void faults() {
        fault("", 0);
        fault("L", 0);
        fault("pl", 0);
        fault("l", 1);
        fault("l;", 1);
        fault("lq", 1);
        fault("lpP", 2);
        fault("lp", 2);
        fault("lp ;a", 2);
        fault("lpbnrhp", 7);
        fault("lpbnrhpb;a", 7);
        fault("lp;", 3);
        fault("lp;;", 3);
        fault("lp;/", 3);
        fault("lp;b", 3);
        fault("lp;A", 3);
        fault("lp;.", 3);
        for (int end = 0; end < SMALL.length(); end++) {
            fault(SMALL.substring(0, end), end);
        }
        fault(SMALL + ";", SMALL.length());
        fault(SMALL + "a", SMALL.length());
        fault(SMALL + (char) 0, SMALL.length());
        fault(SMALL + (char) 255, SMALL.length());
    }

    /** Promise 3: faults of cells and whose. */
    private static void faultsOfRows() {
        fault("lp;aeioua", 9);
        fault("lp;aeiouaa", 9);
        fault("lp;aeioua-;", 9);
        fault("lp;ae/a/", 7);
        fault("lp;ae/a;", 7);
        fault("lp;ae/;", 6);
        fault("lp;ae//", 6);
        fault("lp;ae/aei", 8);
        fault("lp;a/a/a/a/a/a/a", 14);
        fault("lp;a/a/a/a/a/a;", 15);
        fault("lp;ae;;", 6);
        fault("lp;ae;-.", 6);
        fault("lp;ae;a.", 6);
        fault("lp;ae;1.", 6);
        fault("lpp;ae;12", 8);
        fault("lpbnrhp;ae;56", 12);
        fault("lp;ae;0;a", 7);
        fault("lp;ae;0/", 7);
        fault("lp;ae;0.0", 8);
        fault("lp;ae;0./0.;", 8);
        fault("lp;ae/ou;0.;", 11);
        fault("lp;ae/ou;0./;", 12);
        fault("lp;ae/ou;0./.;", 13);
        fault("lp;ae/ou;0./..0", 14);
        fault("lp;ae/ou;0./../", 14);
        fault("lp;ae/ou;0./..;", 15);
    }

    /** Promise 3: faults of words and of the change. */
    private static void faultsOfWordsAndChange() {
        fault("lp;a;0;;", 7);
        fault("lp;a;0;,a", 7);
        fault("lp;a;0;A", 7);
        fault("lp;a;0;`", 7);
        fault("lp;a;0;{", 7);
        fault("lp;a;0;a-", 8);
        fault("lp;a;0;az`", 9);
        fault("lp;a;0;abcdefg", 13);
        fault("lp;a;0;abcdef,", 14);
        fault("lp;a;0;a,;", 9);
        fault("lp;a;0;a,,", 9);
        fault("lp;a;0;a,b,c,d,e", 14);
        fault("lp;a;0;a,b,c,d;", 15);
        fault("lp;a;0;a;;", 9);
        fault("lp;a;0;a;aeio", 13);
        fault("lp;a;0;a;aeio-", 13);
        fault("lp;a;0;a;-", 9);
        fault("lp;a;0;a;b", 9);
        fault("lp;a;0;a;aeiou ", 14);
        fault("lp;a;0;a;aeiou;", 14);
    }

    /** Promise 4, but what is said. */
    private static void holder() {
        GlebeVowels x = Due.on(SMALL);
        for (int one = 0; one < 5; one++) {
            due("4: the kind of " + one, x.holder(one, 0), one + 1);
        }
        due("4: cells of 0", x.holder(0, 1), 2);
        due("4: cells of 4", x.holder(4, 1), 1);
        due("4: prices of 0", x.holder(0, 2), 1 + 5);
        due("4: prices of 3", x.holder(3, 2), 3);
        due("4: says", x.holder(0, 3), Due.set(0, 1));
        due("4: how many", x.holder(0, 4), 2);
        due("4: words of 0", x.holder(0, 5), Due.set(0, 2));
        due("4: words of 2", x.holder(2, 5), Due.set(2));
        due("4: holder(5, 0)", x.holder(5, 0), BAD);
        due("4: holder(-1, 0)", x.holder(-1, 0), BAD);
        due("4: holder(0, -1)", x.holder(0, -1), BAD);
        due("4: holder(0, 6)", x.holder(0, 6), BAD);
        due("4: holder(NONE, 0)", x.holder(NONE, 0), BAD);
        x.sell(0, NONE);
        x.sell(18, NONE);
        due("4: no cells", x.holder(0, 1), 0);
        due("4: no prices", x.holder(0, 2), 0);
        due("4: says none", x.holder(0, 4), 0);
    }

    private static void says(String holders, String cells, String whose, int one, String vowels) {
        GlebeVowels x = Due.on(holders, cells, whose);
        int set = 0;
        for (int i = 0; i < vowels.length(); i++) {
            set |= 1 << "aeiou".indexOf(vowels.charAt(i));
        }
        String of = one + " of l" + holders + ";" + cells + ";" + whose;
        due("4: what is said by " + of, x.holder(one, 3), set);
        due("4: how many are said by " + of, x.holder(one, 4), vowels.length());
    }

    /** Promise 4: SAYS of plain, broad, nasal and poor ones. */
    private static void whatHoldersSay() {
        says("p", "aeiou", "0.0..", 0, "ai");
        says("p", "aeiou-", "000000", 0, "aeiou");
        says("p", "ae-", "..0", 0, "");
        says("pp", "aeo", "010", 1, "e");
        says("b", "aeiou", "0....", 0, "ae");
        says("b", "aeiou", "..0..", 0, "io");
        says("b", "aeiou", "...0.", 0, "ou");
        says("b", "aeiou", "....0", 0, "u");
        says("b", "aeiou", "00...", 0, "aei");
        says("b", "aeiou", "0..0.", 0, "aeou");
        says("b", "a-", ".0", 0, "");
        says("n", "aaeee", "00000", 0, "ae");
        says("n", "aaeee", "0.000", 0, "e");
        says("n", "aaeee", "0.0..", 0, "");
        says("n", "aa---", "00000", 0, "a");
        says("r", "aeiou", "0.0.0", 0, "eo");
        says("r", "aeiou", "00000", 0, "");
        says("rp", "aeio-", "0.01.", 0, "e");
        says("rp", "aa", "01", 0, "");
        says("r", "aa", "0.", 0, "a");
    }

    /** Promise 4: SAYS of heiresses. */
    private static void whatHeiressesSay() {
        says("hp", "aei/oua/eio", "111/101/111", 0, "aeio");
        says("hp", "aei/oua/eio", "011/111/111", 0, "eo");
        says("hp", "aei/oua/eio", "111/111/110", 0, "ai");
        says("hp", "aei/oua/eio", "111/111/11.", 0, "o");
        says("hp", "ae", "00", 0, "");
        says("hp", "aeu", "001", 0, "u");
        says("hp", "aeiou-/uuuuuu", "111110/111111", 0, "u");
        says("hp", "aeiou-/ueiiii", "111110/111111", 0, "ui");
        says("hp", "aeioui/-aaaaa/eiiiii", "111111/011111/111111", 0, "ae");
        says("hp", "a-e", "101", 0, "ae");
        says("hp", "a-e", "011", 0, "");
        says("hp", "uuuuuu/uuuuuu/uuuuuu/uuuuuu/uuuuua/uuuueo", "111111/111111/111111/111111/111111/111110", 0, "uae");
    }

    /** Promise 4: VOWELS that 12 CELLS have, or 11. */
    private static void whatCommonVowelsDo() {
        String twelve = "aaaaaa/aaaaaa/eieiei";
        String eleven = "aaaaaa/aaaaa-/eieiei";
        String whose = "111111/111111/111111";
        for (int kind = 0; kind < 5; kind++) {
            String holders = "pbnrh".charAt(kind) + "p";
            says(holders, twelve, whose, 0, kind == 1 ? "ae" : "a");
            says(holders, eleven, whose, 0, "");
        }
        says("np", twelve, "011111/111111/111111", 0, "");
        says("np", twelve, "001111/111111/111111", 0, "a");
        says("np", twelve, "111111/111111/011111", 0, "a");
        says("np", "oooooo/oooooo/oooooo/eeeeee/eeeeee/aaaaaa", "0...../....../....../0...../....../00....", 0, "a");
        says("bp", "uuuuuu/uuuuuu", "111111/111111", 0, "u");
        says("bp", "oooooo/oooooo", "111111/111111", 0, "ou");
        says("bp", "iiiiii/iiiiii/a-----", "111111/111111/0.....", 0, "aeio");
        says("rp", "iiiiii/iiiiii/aaaaaa/aaaaaa", "111111/111111/111111/111111", 0, "ai");
        says("np", "iiiiii/iiiiii/aaaaaa/aaaaaa", "0...../....../0...../......", 0, "");
        says("pp", "------/------", "000000/111111", 0, "");
    }

    /** Promise 5. */
    private static void cell() {
        GlebeVowels x = Due.on(SMALL);
        int[] numbers = {0, 1, 2, 8, 9, 10, 16, 17, 18};
        int[] sounds = {0, 1, 2, 3, 4, 5, 0, 0, 1};
        int[] holders = {0, 1, NONE, 2, 3, 4, NONE, NONE, 0};
        int[] prices = {1, 2, 3, 2, 3, 4, 3, 4, 5};
        for (int k = 0; k < numbers.length; k++) {
            due("5: sound of " + numbers[k], x.cell(numbers[k], 0), sounds[k]);
            due("5: holder of " + numbers[k], x.cell(numbers[k], 1), holders[k]);
            due("5: price of " + numbers[k], x.cell(numbers[k], 2), prices[k]);
        }
        int[] none = {-1, 3, 7, 11, 19, 24, 64, -8, 72, Integer.MAX_VALUE, Integer.MIN_VALUE, NONE};
        for (int number : none) {
            due("5: cell(" + number + ", 0)", x.cell(number, 0), BAD);
        }
        due("5: cell(0, 3)", x.cell(0, 3), BAD);
        due("5: cell(0, -1)", x.cell(0, -1), BAD);
        x.year();
        due("5: air stays in a year", x.cell(10, 0), 5);
        due("5: a became e", x.cell(0, 0), 1);
        GlebeVowels y = Due.on("p", "aaaaaa/aaaaaa/aaaaaa/aaaaaa/aaaaaa/aaaaau", "....../....../....../....../....../.....0");
        due("5: the last cell's sound", y.cell(45, 0), 4);
        due("5: the last cell's holder", y.cell(45, 1), 0);
        due("5: the last cell's price", y.cell(45, 2), 11);
        due("5: behind the last cell", y.cell(46, 0), BAD);
    }

    /** Promise 6. */
    private static void word() {
        GlebeVowels x = Due.on("lpbnrh;aei/ou-/aae;01./234/..0;cat,mouse,x,banana;eioua");
        due("6: letters of cat", x.word(0, 0), 3);
        due("6: letters of mouse", x.word(1, 0), 5);
        due("6: letters of x", x.word(2, 0), 1);
        due("6: letters of banana", x.word(3, 0), 6);
        due("6: vowels of cat", x.word(0, 1), Due.set(0));
        due("6: vowels of mouse", x.word(1, 1), Due.set(1, 3, 4));
        due("6: vowels of x", x.word(2, 1), 0);
        due("6: vowels of banana", x.word(3, 1), Due.set(0));
        due("6: who can say cat", x.word(0, 2), Due.set(0, 3, 4));
        due("6: who can say mouse", x.word(1, 2), 0);
        due("6: who can say x", x.word(2, 2), Due.set(0, 1, 2, 3, 4));
        due("6: word(4, 0)", x.word(4, 0), BAD);
        due("6: word(-1, 0)", x.word(-1, 0), BAD);
        due("6: word(0, 3)", x.word(0, 3), BAD);
        due("6: word(0, -1)", x.word(0, -1), BAD);
        due("6: word(3, 0) of three", Due.on(SMALL).word(3, 0), BAD);
    }

    /** Promise 7. */
    private static void as() {
        GlebeVowels x = Due.on(SMALL);
        boolean[][] is = {
            {true, true, false, false, false, false},
            {true, true, true, false, false, false},
            {true, true, false, true, false, false},
            {true, false, false, false, true, false},
            {true, false, false, false, true, true},
        };
        due("7: five holders", x.count(0), is.length);
        for (int one = 0; one < 5; one++) {
            for (int kind = 0; kind < 6; kind++) {
                due("7: as(" + one + ", " + kind + ")", x.as(one, kind), is[one][kind] ? one : GlebeVowels.CAST);
            }
        }
        due("7: as(5, 0)", x.as(5, 0), BAD);
        due("7: as(-1, 0)", x.as(-1, 0), BAD);
        due("7: as(0, 6)", x.as(0, 6), BAD);
        due("7: as(0, -1)", x.as(0, -1), BAD);
    }
}
