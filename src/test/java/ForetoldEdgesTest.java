import java.util.ArrayList;
import java.util.HashSet;
import java.util.List;
import java.util.Set;

/** Promises 14 to 25, sentence by sentence: what is foretold, at its edges. */
public final class ForetoldEdgesTest {
    private static final int NONE = GlebeVowels.NONE;

    private ForetoldEdgesTest() {
    }

    public static void main(String[] args) {
        yearsByEveryChange();
        yearsOfFewVowels();
        farYears();
        firstOfAll();
        ranges();
        buysNoneToThree();
        buysByPrice();
        buysOfLikePrices();
        buysNotHis();
        scatteredInEachWay();
        twoOfEachSet();
        lettersForEachNumber();
        marryFew();
        marryNoneLast();
        holdingsOfEachSize();
        holdingsOfAll();
        nextNearestToOneHalf();
        takeTurns();
        takeOrNone();
        takeTheFirstSix();
        chanceOfEachSize();
        chanceTheSameAgain();
        drawnNobodys();
        drawnWho();
        Due.end();
    }

    private static void due(String call, long got, long want) {
        Due.due(call, got, want);
    }

    /** Where a VOWEL is behind n years. */
    private static int after(int[] change, int vowel, int n) {
        int v = vowel;
        for (int y = 0; y < n; y++) {
            v = change[v];
        }
        return v;
    }

    private static int[] change(int way) {
        return new int[] {way / 625, way / 125 % 5, way / 25 % 5, way / 5 % 5, way % 5};
    }

    private static String text(int[] change) {
        StringBuilder text = new StringBuilder();
        for (int v : change) {
            text.append("aeiou".charAt(v));
        }
        return text.toString();
    }

    /** "BEHIND n YEARS: what one SAYS. FIRST: the first of 0 to 60 YEARS behind which one CAN say a word; NONE." */
    private static void yearsByEveryChange() {
        for (int way = 0; way < 3125; way++) {
            int[] change = change(way);
            GlebeVowels x = Due.on("lppppp;aeiou-;01234.;a,u,ay,ae;" + text(change));
            for (int v = 0; v < 5; v++) {
                for (int n : new int[] {0, 1, 2, 3, 4, 5, 59, 60}) {
                    due("behind(" + v + ", " + n + ") by " + text(change), x.behind(v, n), 1 << after(change, v, n));
                }
                due("first a of " + v + " by " + text(change), x.first(v, 0), first(change, v, 0));
                due("first u of " + v + " by " + text(change), x.first(v, 1), first(change, v, 4));
                due("first ae of " + v + " by " + text(change), x.first(v, 3), NONE);
            }
            rounds(x, change, new int[] {0, 1, 2, 3, 4}, text(change));
            due("now still, by " + text(change), x.cell(0, 0), 0);
            due("now still, the year", x.count(3), 0);
        }
    }

    private static int first(int[] change, int from, int to) {
        for (int n = 0; n <= 60; n++) {
            if (after(change, from, n) == to) {
                return n;
            }
        }
        return NONE;
    }

    /** "the fewest YEARS, 1 or more, behind which all sounds are as they were at some YEAR of these, or now". */
    private static void rounds(GlebeVowels x, int[] change, int[] vowels, String by) {
        List<String> seen = new ArrayList<>();
        String sounds = "";
        for (int n = 0; !seen.contains(sounds); n++) {
            if (n > 0) {
                seen.add(sounds);
            }
            StringBuilder next = new StringBuilder();
            for (int v : vowels) {
                next.append(after(change, v, n));
            }
            sounds = next.append('.').toString();
        }
        due("round(0) by " + by, x.round(0), seen.size());
        due("round(1) by " + by, x.round(1), seen.size() - seen.indexOf(sounds));
    }

    /** ROUND is of the sounds that there are: with one, with two VOWELS, with none. */
    private static void yearsOfFewVowels() {
        for (int way = 0; way < 3125; way += 7) {
            int[] change = change(way);
            for (int v = 0; v < 5; v++) {
                int w = (v + 2) % 5;
                String one = "-" + "aeiou".charAt(v);
                rounds(Due.on("lp;" + one + ";..;y;" + text(change)), change, new int[] {v}, text(change) + " of " + one);
                String two = one + "aeiou".charAt(w);
                rounds(Due.on("lp;" + two + ";...;y;" + text(change)), change, new int[] {v, w}, text(change) + " of " + two);
            }
            GlebeVowels air = Due.on("lp;--;..;y;" + text(change));
            due("round(0) of air", air.round(0), 1);
            due("round(1) of air", air.round(1), 1);
        }
    }

    /** "BEHIND n YEARS (0 .. 60)": 60 are told in full, also of what comes round by five and by six. */
    private static void farYears() {
        GlebeVowels five = Due.on("lp;a-;0.;y;eioua");
        GlebeVowels six = Due.on("lpp;ao;01;y;eiauo");
        for (int n = 0; n <= 60; n++) {
            due("five, behind(0, " + n + ")", five.behind(0, n), 1 << n % 5);
            due("six, behind(0, " + n + ")", six.behind(0, n), 1 << n % 3);
            due("six, behind(1, " + n + ")", six.behind(1, n), 1 << 3 + n % 2);
        }
        for (int n : new int[] {-1, 61, 62, 120, Integer.MIN_VALUE, Integer.MAX_VALUE}) {
            due("five, behind(0, " + n + ")", five.behind(0, n), GlebeVowels.BAD);
        }
        five.year();
        due("from now", five.behind(0, 60), 2);
    }

    /** FIRST: now, the year that takes the longest, never; a word without a VOWEL is said now. */
    private static void firstOfAll() {
        GlebeVowels x = Due.on("lpb;ao;00;ao,eu,iu,y;eiauo");
        due("now", x.first(0, 0), 0);
        due("in a year", x.first(0, 1), 1);
        due("in five years", x.first(0, 2), 5);
        due("no vowels", x.first(0, 3), 0);
        due("of one who has no cell", x.first(1, 0), NONE);
        due("of one who has no cell, no vowels", x.first(1, 3), 0);
        due("comes round by six", x.round(0), 6);
        GlebeVowels common = Due.on("lrp;aaaaaa/eeeeee;111111/111111;i,o;iioua");
        due("common in a year", common.first(0, 0), 1);
        due("common in two", common.first(0, 1), 2);
    }

    /** Two who say all, and one who says none. */
    private static GlebeVowels three() {
        return Due.on("lppp;aeiou/aeiou;00000/11111;aei,y,ou;eioua");
    }

    /** What each number may be; each is asked on an object of its own. */
    private static void ranges() {
        Due.range("behind(0, n)", 0, 60, n -> three().behind(0, n));
        Due.range("behind(one, 60)", 0, 2, one -> three().behind(one, 60));
        Due.range("first(one, 0)", 0, 2, one -> three().first(one, 0));
        Due.range("first(0, word)", 0, 2, word -> three().first(0, word));
        Due.range("round(what)", 0, 1, what -> three().round(what));
        Due.range("buys(one, 1, 0)", 0, 2, one -> three().buys(one, 1, 0));
        Due.range("buys(0, word, -1)", 0, 2, word -> three().buys(0, word, -1));
        Due.range("scattered(one, 0)", 0, 2, one -> three().scattered(one, 0));
        Due.range("scattered(0, what)", 0, 1, what -> three().scattered(0, what));
        Due.range("talk(one, 1)", 0, 2, one -> three().talk(one, 1));
        Due.range("talk(0, m)", 1, 5, m -> three().talk(0, m));
        Due.range("marry(one, 1)", 0, 2, one -> one == NONE ? -1 : three().marry(one, 1));
        Due.range("marry(NONE, m)", 1, 5, m -> three().marry(NONE, m));
        Due.range("marry(0, m)", 1, 5, m -> three().marry(0, m));
        Due.range("letters(one, 2, 1)", 0, 1, one -> three().letters(one, 2, 1));
        Due.range("letters(0, other, 1)", 1, 2, other -> three().letters(0, other, 1));
        Due.range("letters(0, 1, q)", 1, 1000, q -> q > 1000 && q < 1000001 ? -1 : three().letters(0, 1, q));
        Due.range("letters(0, 1, q)", 999000, 1000000, q -> q > 0 && q < 999000 ? -1 : three().letters(0, 1, q));
        Due.range("holdings(one, 1, 0, 0)", 0, 2, one -> three().holdings(one, 1, 0, 0));
        Due.range("holdings(0, n, 0, 0)", 1, 3, n -> three().holdings(0, n, 0, 0));
        Due.range("holdings(0, 1, heard, 0)", 0, 31, heard -> three().holdings(0, 1, heard, 0));
        Due.range("holdings(0, 1, 0, what)", 0, 2, what -> three().holdings(0, 1, 0, what));
        Due.range("take(one, 2, 1)", 0, 1, one -> three().take(one, 2, 1));
        Due.range("take(0, other, 1)", 1, 2, other -> three().take(0, other, 1));
        Due.range("take(0, 1, n)", 0, 2, n -> three().take(0, 1, n));
        Due.range("chance(one, 0, 1, 0)", 0, 2, one -> three().chance(one, 0, 1, 0));
        Due.range("chance(0, word, 1, 0)", 0, 2, word -> three().chance(0, word, 1, 0));
        Due.range("chance(0, 0, n, 1)", 0, 2, n -> three().chance(0, 0, n, 1));
        Due.range("chance(0, 0, 1, what)", 0, 1, what -> three().chance(0, 0, 1, what));
        Due.range("drawn(n, 1, 0)", 0, 40, n -> three().drawn(n, 1, 0));
        Due.range("drawn(1, seed, 0)", 1, 100, seed -> seed > 100 && seed < 1000000 ? -1 : three().drawn(1, seed, 0));
        Due.range("drawn(1, seed, 1)", 999900, 999999, seed -> seed > 0 && seed < 999900 ? -1 : three().drawn(1, seed, 1));
        Due.range("drawn(1, 1, what)", 0, 1, what -> three().drawn(1, 1, what));
    }

    /** PRICES together, the CELLS in order, and NONE behind them. */
    private static void buys(String land, int one, int word, int prices, int... cells) {
        GlebeVowels x = Due.on(land);
        due("buys(" + one + ", " + word + ", -1) on " + land, x.buys(one, word, -1), prices);
        for (int k = 0; k < cells.length; k++) {
            due("buys(" + one + ", " + word + ", " + k + ") on " + land, x.buys(one, word, k), cells[k]);
        }
        for (int k : new int[] {cells.length, cells.length + 1, 3, 4, 64, Integer.MAX_VALUE}) {
            due("buys(" + one + ", " + word + ", " + k + ") on " + land, x.buys(one, word, k), NONE);
        }
        for (int k : new int[] {-2, -3, NONE, -5, Integer.MIN_VALUE}) {
            due("buys(" + one + ", " + word + ", " + k + ") on " + land, x.buys(one, word, k), GlebeVowels.BAD);
        }
    }

    /** "CELLS (0 to 3, not his)": none, one, two, three; four are too many. */
    private static void buysNoneToThree() {
        String land = ";aeio;1111;y,a,ae,aei;eioua";
        buys("lpp" + land, 0, 0, 0);
        buys("lpp" + land, 0, 1, 1, 0);
        buys("lpp" + land, 0, 2, 3, 0, 1);
        buys("lpp" + land, 0, 3, 6, 0, 1, 2);
        buys("lpp" + land, 1, 3, 0);
        buys("lpp;aeio;1111;aeio;eioua", 0, 0, NONE);
        buys("lpp;aeio;1110;aeio;eioua", 0, 0, 6, 0, 1, 2);
        buys("lpp;aeio;1111;u;eioua", 0, 0, NONE);
        buys("lp;-;.;y;eioua", 0, 0, 0);
        buys("lp;-;.;a;eioua", 0, 0, NONE);
        buys("lp;a;.;a;eioua", 0, 0, 1, 0);
        buys("lnp;aaa;111;a;eioua", 0, 0, 3, 0, 1);
        buys("lnp;a--;111;a;eioua", 0, 0, NONE);
        buys("lnp;aae;111;ae;eioua", 0, 0, NONE);
        buys("lnp;aae;110;ae;eioua", 0, 0, NONE);
        buys("lnp;aaee;1110;ae;eioua", 0, 0, 6, 0, 1, 2);
    }

    /** "those of the least PRICES together", be they more CELLS than others that cost more. */
    private static void buysByPrice() {
        buys("lbp;ai---e;111111;ei;eioua", 0, 0, 3, 0, 1);
        buys("lbp;aiu-oe;111111;eiou;eioua", 0, 0, 6, 0, 1, 2);
        buys("lpp;---a/----/a---;1111/1111/1111;a;eioua", 0, 0, 3, 16);
        buys("lpp;----a/---a-/-----/-----/a----;11111/11111/11111/11111/11111;a;eioua", 0, 0, 5, 4);
        buys("lpp;------/------/------/------/------/-----a;" + "111111/".repeat(5) + "111111;a;eioua", 0, 0, 11, 45);
        buys("lhp;-a-/---;111/111;a;eioua", 0, 0, 1, 0);
        buys("lhp;aaa/aaa;011/111;a;eioua", 0, 0, 0);
    }

    /** "of like ones the fewest, then the first by numbers (the least CELL of each set, then the next)". */
    private static void buysOfLikePrices() {
        buys("lbp;a-ie;1111;ei;eioua", 0, 0, 4, 3);
        buys("lbp;aiu/e--/---/o--;111/111/111/111;eiou;eioua", 0, 0, 6, 8, 24);
        buys("lpp;--e/-e-/e--;111/111/111;e;eioua", 0, 0, 3, 2);
        buys("lpp;a-e/-e-/e--;111/111/111;ae;eioua", 0, 0, 4, 0, 2);
        buys("lpp;aei/-i-/i--;111/111/111;aei;eioua", 0, 0, 6, 0, 1, 2);
        buys("lbp;ae-/-o-/-i-;111/111/111;eio;eioua", 0, 0, 5, 0, 17);
    }

    /** ".. not his .. SOLD to him now": his own cost nothing and are not sold, others' and nobody's are. */
    private static void buysNotHis() {
        buys("lpp;ae;01;ae;eioua", 0, 0, 2, 1);
        buys("lpp;ae;.1;ae;eioua", 0, 0, 3, 0, 1);
        buys("lpp;aa;0.;a;eioua", 0, 0, 0);
        buys("lnp;aaa;0..;a;eioua", 0, 0, 2, 1);
        buys("lrp;ae;.1;a;eioua", 0, 0, 0);
        buys("lrp;ae;.1;e;eioua", 0, 0, NONE);
        buys("lhp;aeo;1.1;o;eioua", 0, 0, 2, 1);
        buys("lhp;aeo;1.1;ao;eioua", 0, 0, 2, 1);
        buys("lhp;aeo;1.1;eo;eioua", 0, 0, NONE);
    }

    /** "of how many parts his CELLS are ..; how many CELLS the greatest one has": all 512 ways of three by three. */
    private static void scatteredInEachWay() {
        for (int way = 0; way < 512; way++) {
            StringBuilder whose = new StringBuilder();
            for (int k = 0; k < 9; k++) {
                whose.append(k == 3 || k == 6 ? "/" : "").append((way >> k & 1) != 0 ? '0' : '.');
            }
            GlebeVowels x = Due.on("lpp;aei/ou-/aei;" + whose + ";y;eioua");
            int parts = 0;
            int greatest = 0;
            int left = way;
            while (left != 0) {
                int before = left;
                left = without(left, Integer.numberOfTrailingZeros(left));
                parts++;
                greatest = Math.max(greatest, Integer.bitCount(before) - Integer.bitCount(left));
            }
            due("parts of " + whose, x.scattered(0, 0), parts);
            due("greatest of " + whose, x.scattered(0, 1), greatest);
            due("parts of none", x.scattered(1, 0), 0);
            due("greatest of none", x.scattered(1, 1), 0);
        }
    }

    /** A set of nine without the part in which a place lies. */
    private static int without(int set, int place) {
        if ((set >> place & 1) == 0) {
            return set;
        }
        int left = set & ~(1 << place);
        left = place % 3 > 0 ? without(left, place - 1) : left;
        left = place % 3 < 2 ? without(left, place + 1) : left;
        left = place > 2 ? without(left, place - 3) : left;
        return place < 6 ? without(left, place + 3) : left;
    }

    private static String rowOf(int set) {
        StringBuilder text = new StringBuilder();
        for (int v = 0; v < 5; v++) {
            text.append((set >> v & 1) != 0 ? "aeiou".charAt(v) : '-');
        }
        return text.toString();
    }

    /**
     * "two can talk by m (1 to 5), if they both SAY m VOWELS, or more, alike"; "who can TALK with one
     * .. (not himself)"; pairs; letters; no turns of TAKE: of each two sets.
     */
    private static void twoOfEachSet() {
        for (int a = 0; a < 32; a++) {
            for (int b = 0; b < 32; b++) {
                GlebeVowels x = Due.on("lpp;" + rowOf(a) + "/" + rowOf(b) + ";00000/11111;y;eioua");
                int alike = Integer.bitCount(a & b);
                String of = " of " + rowOf(a) + " and " + rowOf(b);
                for (int m = 1; m <= 5; m++) {
                    boolean can = alike >= m;
                    due("talk(0, " + m + ")" + of, x.talk(0, m), can ? 2 : 0);
                    due("talk(1, " + m + ")" + of, x.talk(1, m), can ? 1 : 0);
                    due("marry(NONE, " + m + ")" + of, x.marry(NONE, m), can ? 1 : 0);
                    due("marry(0, " + m + ")" + of, x.marry(0, m), can ? 1 : NONE);
                    due("marry(1, " + m + ")" + of, x.marry(1, m), can ? 0 : NONE);
                }
                due("letters(0, 1, 1)" + of, x.letters(0, 1, 1), 0);
                due("letters(0, 1, 2)" + of, x.letters(0, 1, 2), alike < 2 ? NONE : 1);
                due("letters(1, 0, 6)" + of, x.letters(1, 0, 6), alike < 2 ? NONE : alike == 2 ? 3 : 2);
                due("letters(0, 1, 1000000)" + of, x.letters(0, 1, 1000000), new int[] {NONE, NONE, 20, 13, 10, 9}[alike]);
                due("take(0, 1, 0)" + of, x.take(0, 1, 0), Integer.bitCount(a) - Integer.bitCount(b));
                due("take(1, 0, 2), nothing to take" + of, x.take(1, 0, 2), Integer.bitCount(b) - Integer.bitCount(a));
            }
        }
    }

    /** "so that q rows of as many are unlike": the last q that as many letters do for, and the first they do not. */
    private static void lettersForEachNumber() {
        for (int alike = 2; alike <= 5; alike++) {
            String row = "aeiou".substring(0, alike);
            GlebeVowels x = Due.on("lpp;" + row + "/" + row + ";" + "0".repeat(alike) + "/" + "1".repeat(alike) + ";y;eioua");
            int n = 1;
            for (long rows = alike; rows <= 1000000; rows *= alike) {
                due(alike + " alike for " + rows, x.letters(0, 1, (int) rows), n);
                due(alike + " alike for " + (rows + 1), x.letters(0, 1, (int) rows + 1), rows < 1000000 ? n + 1 : -1);
                due(alike + " alike for " + (rows - 1), x.letters(0, 1, (int) rows - 1), rows == 2 ? 0 : rows == alike ? 1 : n);
                n++;
            }
            due(alike + " alike for 1", x.letters(0, 1, 1), 0);
            due(alike + " alike for 0", x.letters(0, 1, 0), GlebeVowels.BAD);
            due(alike + " alike for 1000001", x.letters(0, 1, 1000001), GlebeVowels.BAD);
            due(alike + " alike, the same", x.letters(1, 1, 1), GlebeVowels.BAD);
        }
    }

    private static void mates(String land, int m, int pairs, int... mates) {
        GlebeVowels x = Due.on(land);
        due("marry(NONE, " + m + ") on " + land, x.marry(NONE, m), pairs);
        for (int one = 0; one < mates.length; one++) {
            due("marry(" + one + ", " + m + ") on " + land, x.marry(one, m), mates[one]);
        }
        due("no more of them on " + land, x.marry(mates.length, m), GlebeVowels.BAD);
    }

    /** One HOLDER alone, two, six; none who talks. */
    private static void marryFew() {
        mates("lp;a;0;y;eioua", 1, 0, NONE);
        mates("lpp;aa;01;y;eioua", 1, 1, 1, 0);
        mates("lpp;aa;01;y;eioua", 2, 0, NONE, NONE);
        mates("lpp;ae;01;y;eioua", 1, 0, NONE, NONE);
        mates("lppp;aaa;012;y;eioua", 1, 1, 1, 0, NONE);
        mates("lpppp;aaaa;0123;y;eioua", 1, 2, 1, 0, 3, 2);
        mates("lpppppp;aaaaaa;012345;y;eioua", 1, 3, 1, 0, 3, 2, 5, 4);
        mates("lpppppp;aeiou-;012345;y;eioua", 1, 0, NONE, NONE, NONE, NONE, NONE, NONE);
        mates("lrrrrrr;aeiou;.....;y;eioua", 5, 3, 1, 0, 3, 2, 5, 4);
    }

    /** "of several the first (of HOLDER 0, then 1, ..: the lesser mate first, none last)". */
    private static void marryNoneLast() {
        mates("lppp;a-/ae/e-;0./11/2.;y;eioua", 1, 1, 1, 0, NONE);
        mates("lppp;a-/e-/ae;0./1./22;y;eioua", 1, 1, 2, NONE, 0);
        mates("lppp;--/a-/a-;0./1./2.;y;eioua", 1, 1, NONE, 2, 1);
        mates("lpppp;ae/a-/a-/e-;00/1./2./3.;y;eioua", 1, 2, 3, 2, 1, 0);
        mates("lpppp;ae/a-/e-/i-;00/1./2./3.;y;eioua", 1, 1, 1, 0, NONE, NONE);
        mates("lpppp;aei/a--/e--/i--;000/1../2../3..;y;eioua", 1, 1, 1, 0, NONE, NONE);
        mates("lppppp;ae-/ae-/ai-/ei-/a--;00./11./22./33./4..;y;eioua", 1, 2, 1, 0, 3, 2, NONE);
        mates("lpppppp;a-/a-/a-/e-/e-/e-;0./1./2./3./4./5.;y;eioua", 1, 2, 1, 0, NONE, 4, 3, NONE);
        mates("lpppppp;a--/ae-/ei-/i--/a--/---;0../11./22./3../4../5..;y;eioua", 1, 2, 1, 0, 3, 2, NONE, NONE);
    }

    private static int choose(int cells, int n) {
        return n == 1 ? cells : n == 2 ? cells * (cells - 1) / 2 : cells * (cells - 1) * (cells - 2) / 6;
    }

    /** "all sets of n CELLS": of how many in all, from one CELL (no two, no three) to 36. */
    private static void holdingsOfEachSize() {
        for (int rows = 1; rows <= 6; rows++) {
            for (int columns = 1; columns <= 6; columns++) {
                String air = ("/" + "-".repeat(columns)).repeat(rows).substring(1);
                GlebeVowels x = Due.on("lpp;" + air + ";" + air.replace('-', '1') + ";y;eioua");
                for (int n = 1; n <= 3; n++) {
                    int all = choose(rows * columns, n);
                    String of = " of " + n + " on " + air;
                    due("in all" + of, x.holdings(0, n, 0, 1), all);
                    due("how many say none" + of, x.holdings(0, n, 0, 0), all);
                    due("how many say a" + of, x.holdings(0, n, 1, 0), 0);
                    due("in all of a" + of, x.holdings(0, n, 1, 1), all);
                    due("next for a" + of, x.holdings(0, n, 1, 2), NONE);
                    due("next for none" + of, x.holdings(0, n, 0, 2), all == 0 ? NONE : 0);
                }
            }
        }
    }

    /** "by which he would SAY just HEARD": each HEARD from 0 to 31, by one, two, three CELLS of aeiou-. */
    private static void holdingsOfAll() {
        GlebeVowels x = Due.on("lppn;aeiou-;012000;y;eioua");
        for (int heard = 0; heard < 32; heard++) {
            int said = Integer.bitCount(heard);
            for (int n = 1; n <= 3; n++) {
                int fit = said == n || said == n - 1 ? 1 : 0;
                due("sets of " + n + " for " + heard, x.holdings(1, n, heard, 0), fit);
                due("nasal, sets of " + n + " for " + heard, x.holdings(2, n, heard, 0), heard == 0 ? choose(6, n) : 0);
            }
        }
        due("his own, and others' too", x.holdings(0, 2, 3, 0), 1);
        GlebeVowels poor = Due.on("lrrr;aeio;011.;y;eioua");
        due("his other ones are nobody's", poor.holdings(0, 1, 1 | 8, 0), 2);
        due("and what he would have is not", poor.holdings(0, 1, 8, 0), 1);
        due("others hold theirs", poor.holdings(1, 1, 2 | 4 | 8, 0), 1);
        due("others hold theirs, less one", poor.holdings(1, 1, 2 | 8, 0), 1);
    }

    private static void next(String land, int n, int heard, int how, int next) {
        GlebeVowels x = Due.on(land);
        due("holdings(0, " + n + ", " + heard + ", 0) on " + land, x.holdings(0, n, heard, 0), how);
        due("holdings(0, " + n + ", " + heard + ", 2) on " + land, x.holdings(0, n, heard, 2), next);
    }

    /** "twice how often it is in one, less how many there are, is least, above 0 or below, of like ones the first". */
    private static void nextNearestToOneHalf() {
        next("lp;-aa;...;y;eioua", 1, 1, 2, 1);
        next("lp;a-a;...;y;eioua", 1, 1, 2, 0);
        next("lp;-aaa;....;y;eioua", 1, 1, 3, 1);
        next("lp;a-;..;y;eioua", 2, 1, 1, 0);
        next("lp;e--e;....;y;eioua", 2, 2, 5, 0);
        next("lp;-ee-;....;y;eioua", 2, 2, 5, 0);
        next("lp;ae---;.....;y;eioua", 2, 1, 3, 2);
        next("lp;ea---;.....;y;eioua", 3, 3, 3, 2);
        next("lp;eaa;...;y;eioua", 2, 3, 2, 1);
        next("lp;-aeaaa/------;....../......;y;eioua", 2, 3, 4, 1);
        next("lp;uuuuuu/uuuuuu;....../......;y;eioua", 1, 16, 12, 0);
        next("lp;aeiou;.....;y;eioua", 3, 31, 0, NONE);
        next("lp;------/------/------/------/------/----aa;" + "....../".repeat(5) + "......;y;eioua", 1, 1, 2, 44);
    }

    private static void takes(String land, int one, int other, int... wants) {
        GlebeVowels x = Due.on(land);
        for (int n = 0; n < wants.length; n++) {
            due("take(" + one + ", " + other + ", " + n + ") on " + land, x.take(one, other, n), wants[n]);
        }
        due("take(" + one + ", " + other + ", 3) on " + land, x.take(one, other, 3), GlebeVowels.BAD);
        due("take(" + one + ", " + one + ", 1) on " + land, x.take(one, one, 1), GlebeVowels.BAD);
    }

    /** "n (0 to 2) turns each, one after the other, the one first": no CELL to take, one, two, .. five. */
    private static void takeTurns() {
        takes("lpp;-----;00111;y;eioua", 0, 1, 0, 0, 0);
        takes("lpp;a----;.0111;y;eioua", 0, 1, 0, 1, 1);
        takes("lpp;a----;.0111;y;eioua", 1, 0, 0, 1, 1);
        takes("lpp;ae---;..011;y;eioua", 0, 1, 0, 0, 0);
        takes("lpp;aei--;...01;y;eioua", 0, 1, 0, 0, 1);
        takes("lpp;aei--;...01;y;eioua", 1, 0, 0, 0, 1);
        takes("lpp;aeio-;....1;y;eioua", 0, 1, 0, 0, 0);
        takes("lpp;aeiou;.....;y;eioua", 0, 1, 0, 0, 0);
        takes("lppp;aeiou;22222;y;eioua", 0, 1, 0, 0, 0);
        takes("lppp;aeiou/aei--;11111/00222;y;eioua", 0, 1, -3, -3, -3);
        takes("lppp;aeiou/aei--;11111/00222;y;eioua", 1, 0, 3, 3, 3);
        takes("lpp;ae-;11.;y;eioua", 0, 1, -2, -2, -2);
        takes("lpp;a--;1..;y;eioua", 0, 1, -1, -1, -1);
    }

    /** ".. or none": where to take one would be to lose by it. */
    private static void takeOrNone() {
        takes("lrp;aa-;..1;y;eioua", 0, 1, 1, 0, -1);
        takes("lrp;aa-;..1;y;eioua", 1, 0, -1, 0, 1);
        takes("lrp;a--;.01;y;eioua", 0, 1, 1, 0, 0);
        takes("lnp;a--;.01;y;eioua", 0, 1, 0, 0, 0);
        takes("lnp;aaa;00.;y;eioua", 0, 1, 1, 1, 1);
        takes("lrr;a--;.01;y;eioua", 0, 1, 0, 0, 0);
    }

    /** "one of the first six CELLS of nobody now (by numbers) that are not taken yet". */
    private static void takeTheFirstSix() {
        for (int free = 0; free < 12; free++) {
            String row = "-".repeat(free) + "a" + "-".repeat(11 - free);
            String cells = row.substring(0, 6) + "/" + row.substring(6);
            int gain = free < 6 ? 1 : 0;
            takes("lpp;" + cells + ";....../......;y;eioua", 0, 1, 0, gain, gain);
            int rank = (free + 1) / 2;
            int wins = free % 2 == 1 ? rank <= 6 ? 1 : 0 : 0;
            takes("lppp;" + cells + ";2.2.2./2.2.2.;y;eioua", 1, 0, 0, wins, wins);
        }
        takes("lpp;-----/-a---;...../.....;y;eioua", 0, 1, 0, 0, 0);
        takes("lpp;-----/a----;...../.....;y;eioua", 0, 1, 0, 1, 1);
        takes("lpp;-----/-a---;0..../.....;y;eioua", 0, 1, 0, 1, 1);
        takes("lpp;a-----/e-----;....../......;y;eioua", 0, 1, 0, 1, 1);
    }

    private static int divisor(int a, int b) {
        return b == 0 ? a : divisor(b, a % b);
    }

    private static void chances(String land, int n, int above, int below) {
        GlebeVowels x = Due.on(land);
        int common = divisor(above, below);
        due("chance(0, 0, " + n + ", 0) on " + land, x.chance(0, 0, n, 0), above / common);
        due("chance(0, 0, " + n + ", 1) on " + land, x.chance(0, 0, n, 1), below / common);
    }

    /** "told in lowest terms ..; none is 0 by 1", all is 1 by 1; "n times a CELL, each of all alike likely". */
    private static void chanceOfEachSize() {
        for (int rows = 1; rows <= 6; rows++) {
            for (int columns = 1; columns <= 6; columns++) {
                int cells = rows * columns;
                for (int with : new int[] {0, 1, 2, 3, cells / 2, cells - 1, cells}) {
                    int a = Math.min(cells, with);
                    StringBuilder text = new StringBuilder();
                    for (int k = 0; k < cells; k++) {
                        text.append(k > 0 && k % columns == 0 ? "/" : "").append(k < a ? 'u' : 'a');
                    }
                    String land = text + ";" + text.toString().replaceAll("[ua]", "1") + ";u;eioua";
                    if (a >= 12) {
                        chances("lpp;" + land, a % 3, 1, 1);
                        continue;
                    }
                    chances("lpp;" + land, 0, 0, 1);
                    chances("lpp;" + land, 1, a, cells);
                    chances("lpp;" + land, 2, cells * cells - (cells - a) * (cells - a), cells * cells);
                    chances("lnp;" + land, 1, 0, 1);
                    chances("lnp;" + land, 2, a * (a - 1), cells * cells);
                }
            }
        }
    }

    /** "by itself (the same again, too)", also what is his already. */
    private static void chanceTheSameAgain() {
        chances("lp;a;0;a;eioua", 0, 1, 1);
        chances("lp;a;0;a;eioua", 1, 1, 1);
        chances("lp;a;0;a;eioua", 2, 1, 1);
        chances("lp;a;.;a;eioua", 0, 0, 1);
        chances("lp;a;.;a;eioua", 1, 1, 1);
        chances("lp;-;.;y;eioua", 2, 1, 1);
        chances("lp;-;.;a;eioua", 2, 0, 1);
        chances("lpp;ae;11;ae;eioua", 1, 0, 1);
        chances("lpp;ae;11;ae;eioua", 2, 1, 2);
        chances("lpp;ae;01;ae;eioua", 1, 1, 2);
        chances("lpp;ae;01;ae;eioua", 2, 3, 4);
        chances("lr;a;.;a;eioua", 0, 1, 1);
        chances("lr;a;.;a;eioua", 1, 0, 1);
        chances("lr;aa;..;a;eioua", 1, 1, 1);
        chances("lr;aa;..;a;eioua", 2, 1, 2);
        chances("lnp;aa;01;a;eioua", 1, 1, 2);
        chances("lnp;aa;01;a;eioua", 2, 3, 4);
    }

    private static long nextX(long x) {
        return x * 16807 % 2147483647L;
    }

    /** "of all CELLS the one with the number that X leaves by how many there are (row by row) is SOLD": 0 to 40 of them. */
    private static void drawnNobodys() {
        for (int rows = 1; rows <= 6; rows++) {
            for (int columns = 1; columns <= 6; columns++) {
                String cells = ("/" + "a".repeat(columns)).repeat(rows).substring(1);
                String holders = "p".repeat(1 + columns % 3);
                GlebeVowels x = Due.on("l" + holders + ";" + cells + ";" + cells.replace('a', '.') + ";y;eioua");
                for (int seed : new int[] {1, 2, 127773, 999999}) {
                    Set<Long> sold = new HashSet<>();
                    long next = seed;
                    for (int n = 0; n <= 40; n++) {
                        if (n < 10 || n > 38) {
                            due("drawn(" + n + ", " + seed + ", 1) on " + cells, x.drawn(n, seed, 1), rows * columns - sold.size());
                        }
                        next = nextX(next);
                        sold.add(next % (rows * columns));
                    }
                }
            }
        }
    }

    /** "SOLD to the HOLDER that X by 8 (cut) leaves by how many there are": who SAYS most, of several the first. */
    private static void drawnWho() {
        for (int holders = 1; holders <= 6; holders++) {
            String land = "l" + "p".repeat(holders) + ";aei/ou-/uoi;.../.../...;y;eiiau";
            int[] sounds = {0, 1, 2, 3, 4, 5, 4, 3, 2};
            for (int seed = 1; seed <= 40; seed++) {
                GlebeVowels x = Due.on(land);
                int[] whose = {-1, -1, -1, -1, -1, -1, -1, -1, -1};
                long next = seed * 24999L;
                for (int n = 0; n <= 40; n++) {
                    due("drawn(" + n + ", " + seed * 24999 + ", 0) of " + holders, x.drawn(n, seed * 24999, 0), most(whose, sounds, n, holders));
                    next = nextX(next);
                    whose[(int) (next % 9)] = (int) (next / 8 % holders);
                }
            }
        }
    }

    /** In a year a becomes e, e i, o a; i and u stay. */
    private static int most(int[] whose, int[] sounds, int years, int holders) {
        int[] change = {1, 2, 2, 0, 4};
        int best = 0;
        int[] said = new int[holders];
        for (int k = 0; k < 9; k++) {
            if (whose[k] >= 0 && sounds[k] < 5) {
                said[whose[k]] |= 1 << after(change, sounds[k], years);
            }
        }
        for (int one = 1; one < holders; one++) {
            best = Integer.bitCount(said[one]) > Integer.bitCount(said[best]) ? one : best;
        }
        return best;
    }
}
