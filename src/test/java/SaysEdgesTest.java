/**
 * Promises 4 to 7, sentence by sentence: what each KIND SAYS, at the edges of twelve CELLS, of one
 * CELL and of the land, and who CAN say a word. What is due comes from counting rows and columns.
 */
public final class SaysEdgesTest {
    private static final int BAD = GlebeVowels.BAD;
    private static final int NONE = GlebeVowels.NONE;
    private static final String KINDS = "pbnrh";
    private static final String VOWELS = "aeiou";

    private SaysEdgesTest() {
    }

    public static void main(String[] args) {
        twelveCells();
        twelveByWhomever();
        oneCell();
        broad();
        nasal();
        nasalOfCommonOnes();
        poor();
        heiressAtEachPlace();
        heiressBesideMany();
        airIsNoVowel();
        words();
        holderTold();
        cellTold();
        wordTold();
        kinds();
        Due.end();
    }

    private static void due(String call, long got, long want) {
        Due.due(call, got, want);
    }

    /** Six rows of six: the first signs as told, the rest of them like the last. */
    private static String sixBySix(String signs) {
        StringBuilder text = new StringBuilder();
        for (int k = 0; k < 36; k++) {
            text.append(k > 0 && k % 6 == 0 ? "/" : "").append(signs.charAt(Math.min(k, signs.length() - 1)));
        }
        return text.toString();
    }

    /** What 0 SAYS, whereof there are as many as `holder` tells. */
    private static int said(String holders, String cells, String whose) {
        GlebeVowels x = Due.on("l" + holders + ";" + cells + ";" + whose + ";y;eioua");
        int said = x.holder(0, 3);
        due("how many that is: l" + holders + ";" + cells + ";" + whose, x.holder(0, 4), Integer.bitCount(said));
        return said;
    }

    /** The VOWEL behind one, as a set; there is none behind u. */
    private static int behind(int v) {
        return v < 4 ? 1 << v + 1 : 0;
    }

    /** "a HOLDER says a VOWEL that 12 CELLS or more have": each KIND does, of each VOWEL, with no CELL of his. */
    private static void twelveCells() {
        for (int kind = 0; kind < 5; kind++) {
            for (int v = 0; v < 5; v++) {
                for (int n : new int[] {0, 1, 11, 12, 13, 35, 36}) {
                    String cells = sixBySix(VOWELS.substring(v, v + 1).repeat(n) + "-".repeat(36 - n));
                    int want = n < 12 ? 0 : 1 << v | (kind == 1 ? behind(v) : 0);
                    String text = n + " cells of " + VOWELS.charAt(v) + ", said by " + KINDS.charAt(kind);
                    due(text, said(KINDS.charAt(kind) + "p", cells, sixBySix("1")), want);
                }
            }
        }
        GlebeVowels x = Due.on("lpp;aaaaaa/aaaaa-;111111/111111;a;aeiou");
        due("eleven", x.holder(0, 3), 0);
        x.plough(13, 0);
        due("the twelfth", x.holder(0, 3), 1);
        x.plough(0, 1);
        due("eleven again", x.holder(0, 3), 0);
    }

    /** .. whoever holds them: he himself (a poor one says none of his own else), others or nobody. */
    private static void twelveByWhomever() {
        for (String whose : new String[] {"000000/000000", "111111/111111", "000000/111111", "01.01./10.10."}) {
            due("poor, " + whose, said("rp", "iiiiii/iiiiii", whose), 4);
            due("plain, " + whose, said("pp", "iiiiii/iiiiii", whose), 4);
            due("nasal, " + whose, said("np", "iiiiii/iiiiii", whose), 4);
        }
        due("plain, of nobody", said("p", "uuuuuu/uuuuuu", "....../......"), 16);
        due("plain, eleven of nobody", said("p", "uuuuuu/uuuuu-", "....../......"), 0);
        due("poor, eleven of his own", said("r", "uuuuuu/uuuuu-", "000000/000000"), 0);
    }

    /** "a PLAIN one also each of which he holds a CELL, or more": none, one, two, eleven, wherever. */
    private static void oneCell() {
        for (int n : new int[] {0, 1, 2, 3, 11}) {
            String cells = sixBySix("o".repeat(11) + "-".repeat(25));
            String whose = sixBySix("0".repeat(n) + "1".repeat(36 - n));
            due("plain, " + n + " cells", said("pp", cells, whose), n == 0 ? 0 : 8);
        }
        for (int k = 0; k < 36; k++) {
            for (int v = 0; v < 5; v++) {
                String cells = sixBySix("-".repeat(k) + VOWELS.charAt(v) + "-".repeat(35 - k));
                String mine = sixBySix("1".repeat(k) + "0" + "1".repeat(35 - k));
                String others = sixBySix("0".repeat(k) + "1" + "0".repeat(35 - k));
                due("plain, his one cell is the " + k + "th", said("pp", cells, mine), 1 << v);
                due("plain, all but the " + k + "th are his", said("pp", cells, others), 0);
            }
        }
    }

    /** A row of six: the VOWELS of a set, held by 0, and air. */
    private static String rowOf(int set) {
        StringBuilder text = new StringBuilder();
        for (int v = 0; v < 5; v++) {
            text.append((set >> v & 1) != 0 ? VOWELS.charAt(v) : '-');
        }
        return text.append('-').toString();
    }

    /** "of each such VOWEL the one behind it, too (behind a: e, .. behind o: u)", and of that one no other. */
    private static void broad() {
        for (int set = 0; set < 32; set++) {
            int want = set;
            for (int v = 0; v < 4; v++) {
                want |= (set >> v & 1) << v + 1;
            }
            due("broad of " + rowOf(set), said("b", rowOf(set), "000000"), want);
            due("broad of another's " + rowOf(set), said("bp", rowOf(set), "111111"), 0);
            due("plain of " + rowOf(set), said("p", rowOf(set), "000000"), set);
        }
    }

    /** "none of which he holds just one CELL": none, one, two, three of each, beside one of another. */
    private static void nasal() {
        for (int v = 0; v < 5; v++) {
            char letter = VOWELS.charAt(v);
            int other = (v + 2) % 5;
            for (int n = 0; n <= 4; n++) {
                String cells = (letter + "").repeat(4) + VOWELS.charAt(other) + VOWELS.charAt(other);
                String whose = "0".repeat(n) + "1".repeat(4 - n);
                int want = n < 2 ? 0 : 1 << v;
                due("nasal, " + n + " of " + letter, said("np", cells, whose + "11"), want);
                due("nasal, " + n + " of " + letter + " and one", said("np", cells, whose + "01"), want);
                due("nasal, " + n + " of " + letter + " and two", said("np", cells, whose + "00"), want | 1 << other);
            }
        }
    }

    /** .. not even a common one; of a common one none, or two, of his own do not bar it. */
    private static void nasalOfCommonOnes() {
        for (int n = 0; n <= 12; n++) {
            String whose = "0".repeat(n) + "1".repeat(12 - n);
            String rows = whose.substring(0, 6) + "/" + whose.substring(6);
            due("nasal, " + n + " of twelve", said("np", "eeeeee/eeeeee", rows), n == 1 ? 0 : 2);
            due("nasal, " + n + " of eleven", said("np", "eeeeee/eeeee-", rows), n < 2 ? 0 : 2);
        }
    }

    /** "a POOR one says what a HOLDER would, and each that a CELL of nobody has": not his own, no one's else. */
    private static void poor() {
        for (int k = 0; k < 36; k++) {
            String cells = sixBySix("-".repeat(k) + "u" + "-".repeat(35 - k));
            String free = sixBySix("1".repeat(k) + "." + "1".repeat(35 - k));
            String his = sixBySix(".".repeat(k) + "0" + ".".repeat(35 - k));
            String others = sixBySix(".".repeat(k) + "1" + ".".repeat(35 - k));
            due("poor, the " + k + "th of nobody", said("rp", cells, free), 16);
            due("heiress, the " + k + "th of nobody", said("hp", cells, free), 16);
            due("poor, the " + k + "th his", said("rp", cells, his), 0);
            due("poor, the " + k + "th another's", said("rp", cells, others), 0);
        }
        due("poor, none of nobody", said("r", "aeiou-", "000000"), 0);
        due("poor, all of nobody", said("r", "aeiou-", "......"), 31);
    }

    /**
     * "each that a CELL beside one of hers has (left, right, above, below; not hers)": the one VOWEL
     * of the land at each place, her one CELL at each place, all else another's.
     */
    private static void heiressAtEachPlace() {
        for (int k = 0; k < 36; k++) {
            String cells = sixBySix("-".repeat(k) + "i" + "-".repeat(35 - k));
            for (int at = 0; at < 36; at++) {
                String whose = sixBySix("1".repeat(at) + "0" + "1".repeat(35 - at));
                int apart = Math.abs(k / 6 - at / 6) + Math.abs(k % 6 - at % 6);
                due("heiress at " + at + ", i at " + k, said("hp", cells, whose), apart == 1 ? 4 : 0);
            }
        }
    }

    /** .. between two of hers; her own are not beside her, wherever they lie. */
    private static void heiressBesideMany() {
        due("at the corners", said("hp", "-a-/eio/-u-", "010/111/010"), 1 | 2 | 8 | 16);
        due("between the corners", said("hp", "-a-/eio/-u-", "101/000/101"), 0);
        due("around one", said("hp", "-a-/eio/-u-", "000/010/000"), 1 << 2);
        due("four around hers", said("hp", "-a-/eio/-u-", "111/101/111"), 1 | 2 | 8 | 16);
        due("hers beside hers", said("h", "aeiou", "00000"), 0);
        due("hers, and one of another", said("hp", "aaaaa", "00001"), 1);
        due("all hers but a corner", said("hp", "aei/oua/eia", "000/000/001"), 1);
        due("none hers", said("hp", "aei/oua/eia", "111/111/111"), 0);
        due("none hers, one of nobody", said("hp", "aei/oua/eia", "111/1.1/111"), 16);
        due("a small land", said("hp", "a/e", "0/1"), 2);
        due("a row", said("hp", "aeiou-", "101101"), 1 | 4 | 8);
    }

    /** AIR is no VOWEL, however much of it there is, and nothing is behind u. */
    private static void airIsNoVowel() {
        for (int kind = 0; kind < 5; kind++) {
            String holders = KINDS.charAt(kind) + "p";
            due("air alone, " + holders, said(holders, sixBySix("-"), sixBySix("0")), 0);
            due("air of nobody, " + holders, said(holders, sixBySix("-"), sixBySix(".")), 0);
            due("air beside, " + holders, said(holders, sixBySix("-"), sixBySix("01010110101001010110101001")), 0);
        }
        due("nothing behind u", said("b", "uuuuuu/uuuuuu", "000000/000000"), 16);
    }

    /** "A word CAN be said by one who SAYS all VOWELS in it": each set said, each set in a word. */
    private static void words() {
        for (int set = 0; set < 32; set++) {
            for (int need = 0; need < 32; need += 4) {
                StringBuilder words = new StringBuilder();
                for (int w = 0; w < 4; w++) {
                    words.append(w == 0 ? "" : ",").append(rowOf(need + w).replace('-', "bzky".charAt(w)));
                }
                GlebeVowels x = Due.on("lpp;" + rowOf(set) + ";000000;" + words + ";eioua");
                int can = 0;
                for (int w = 0; w < 4; w++) {
                    boolean is = (need + w & ~set) == 0;
                    can |= is ? 1 << w : 0;
                    due(words + ", vowels of word " + w, x.word(w, 1), need + w);
                    due(rowOf(set) + " for " + words + ", who can say " + w, x.word(w, 2), is ? need + w == 0 ? 3 : 1 : 0);
                    due(rowOf(set) + " for " + words + ", first of " + w, x.first(0, w) == 0 ? 1 : 0, is ? 1 : 0);
                }
                due(rowOf(set) + " for " + words + ", what can be said", x.holder(0, 5), can);
                due(rowOf(set) + " for " + words + ", what the other can say", x.holder(1, 5), need == 0 ? 1 : 0);
            }
        }
    }

    /** "1 how many CELLS are his, 2 their PRICES together": none, one, all. */
    private static void holderTold() {
        GlebeVowels x = Due.on("lpprrrr;" + sixBySix("a") + ";" + sixBySix("0") + ";y;eioua");
        int[] all = {1, 36, 216, 1, 1, 1};
        int[] none = {4, 0, 0, 1, 1, 1};
        for (int what = 0; what < 6; what++) {
            due("he has all, " + what, x.holder(0, what), all[what]);
            due("he has none, " + what, x.holder(5, what), none[what]);
        }
        for (int k = 0; k < 36; k++) {
            String whose = sixBySix("1".repeat(k) + "0" + "1".repeat(35 - k));
            GlebeVowels one = Due.on("lpp;" + sixBySix("a") + ";" + whose + ";y;eioua");
            due("his one cell is the " + k + "th, how many", one.holder(0, 1), 1);
            due("his one cell is the " + k + "th, its price", one.holder(0, 2), k / 6 + k % 6 + 1);
            due("the other has the rest", one.holder(1, 1), 35);
            due("at the price of the rest", one.holder(1, 2), 216 - (k / 6 + k % 6 + 1));
        }
        for (int holders = 1; holders <= 6; holders++) {
            GlebeVowels some = Due.on("l" + "p".repeat(holders) + ";a;.;y;eioua");
            Due.range("holder(one, 1) of " + holders, 0, holders - 1, one -> some.holder(one, 1));
            Due.range("as(one, 0) of " + holders, 0, holders - 1, one -> some.as(one, 0));
        }
        Due.range("holder(0, what)", 0, 5, what -> x.holder(0, what));
    }

    /** "0 its SOUND, 1 who holds it (NONE: nobody), 2 its PRICE. BAD." */
    private static void cellTold() {
        GlebeVowels x = Due.on("lpppppp;aeiou-;012345;y;eioua");
        for (int k = 0; k < 6; k++) {
            due("sound of " + k, x.cell(k, 0), k);
            due("holder of " + k, x.cell(k, 1), k);
        }
        Due.range("cell(cell, 0)", 0, 5, cell -> x.cell(cell, 0));
        Due.range("cell(0, what)", 0, 2, what -> x.cell(0, what));
        x.sell(5, NONE);
        due("of nobody", x.cell(5, 1), NONE);
        due("of nobody, none such", x.cell(6, 1), BAD);
    }

    /** "0 how many letters, 1 its VOWELS (a set), 2 who CAN say it (a set). BAD." */
    private static void wordTold() {
        for (int words = 1; words <= 4; words++) {
            GlebeVowels x = Due.on("lpppppp;a;0;" + "a,ab,abc,abcdyf".substring(0, new int[] {1, 4, 8, 15}[words - 1]) + ";eioua");
            Due.range("word(word, 0) of " + words, 0, words - 1, word -> x.word(word, 0));
            due("the last one", x.word(words - 1, 0), words < 4 ? words : 6);
            due("who can say it", x.word(words - 1, 2), 1);
        }
        GlebeVowels x = Due.on("lpppppp;aaaaaa;012345;a,y;eioua");
        Due.range("word(0, what)", 0, 2, what -> x.word(0, what));
        due("all six", x.word(0, 2), 63);
        due("no vowel, all six", x.word(1, 2), 63);
    }

    /**
     * "KINDS are over one another: HOLDER (0); PLAIN (1) under it; BROAD (2) is PLAIN; NASAL (3) is
     * PLAIN; POOR (4) is a HOLDER; HEIRESS (5) is POOR." No HOLDER is told as just that.
     */
    private static void kinds() {
        String[] is = {"01", "012", "013", "04", "045"};
        GlebeVowels x = Due.on("lpbnrhp;aeiou-;012345;y;eioua");
        for (int one = 0; one < 6; one++) {
            due("kind of " + one, x.holder(one, 0), one % 5 + 1);
            for (int kind = 0; kind <= 5; kind++) {
                boolean such = is[one % 5].indexOf((char) ('0' + kind)) >= 0;
                due("as(" + one + ", " + kind + ")", x.as(one, kind), such ? one : GlebeVowels.CAST);
            }
        }
        Due.range("as(0, kind)", 0, 5, kind -> x.as(0, kind));
        due("as(6, 0)", x.as(6, 0), BAD);
    }
}
