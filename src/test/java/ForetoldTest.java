/** Promises 14 to 25: what is foretold, while nothing changes. */
public final class ForetoldTest {
    private static final int BAD = GlebeVowels.BAD;
    private static final int NOT = GlebeVowels.NOT;
    private static final int NONE = GlebeVowels.NONE;

    private ForetoldTest() {
    }

    public static void main(String[] args) {
        behind();
        first();
        round();
        buys();
        buysOfLikePrices();
        buysByHeldBack();
        scattered();
        talk();
        marry();
        marryTheFirstWay();
        letters();
        holdings();
        holdingsOfOthers();
        holdingsNext();
        take();
        takeOfSix();
        chance();
        chanceLost();
        drawn();
        drawnByHand();
        Due.end();
    }

    private static void due(String call, long got, long want) {
        Due.due(call, got, want);
    }

    /** Promise 14. */
    private static void behind() {
        GlebeVowels x = Due.on("lpb;aei-;01.0;a;eiouu");
        int[] plain = {0, 1, 2, 3, 4, 4};
        for (int n = 0; n < plain.length; n++) {
            due("14: behind(0, " + n + ")", x.behind(0, n), Due.set(plain[n]));
        }
        due("14: broad, 1", x.behind(1, 1), Due.set(2, 3));
        due("14: broad, 2", x.behind(1, 2), Due.set(3, 4));
        due("14: broad, 3", x.behind(1, 3), Due.set(4));
        due("14: behind(0, 60)", x.behind(0, 60), Due.set(4));
        due("14: behind(0, 61)", x.behind(0, 61), BAD);
        due("14: behind(0, -1)", x.behind(0, -1), BAD);
        due("14: behind(2, 0)", x.behind(2, 0), BAD);
        due("14: behind(-1, 0)", x.behind(-1, 0), BAD);
        due("14: nothing changes, the year", x.count(3), 0);
        due("14: nothing changes, a sound", x.cell(0, 0), 0);
        due("14: nothing changes, the acts", x.count(6), 0);
        GlebeVowels common = Due.on("lpp;aaaaaa/eeeeee;111111/111111;a;iioua");
        due("14: none is common yet", common.behind(0, 0), 0);
        due("14: i is common then", common.behind(0, 1), Due.set(2));
        due("14: a, all common", common.behind(0, 4), Due.set(0));
    }

    /** Promise 15. */
    private static void first() {
        GlebeVowels x = Due.on("lpp;aei;01.;u,ae,y,a;eioua");
        due("15: u, behind 4", x.first(0, 0), 4);
        due("15: u of e, behind 3", x.first(1, 0), 3);
        due("15: two at once, never", x.first(0, 1), NONE);
        due("15: no vowels, now", x.first(0, 2), 0);
        due("15: a, now", x.first(0, 3), 0);
        due("15: a of e", x.first(1, 3), 4);
        due("15: first(2, 0)", x.first(2, 0), BAD);
        due("15: first(-1, 0)", x.first(-1, 0), BAD);
        due("15: first(0, 4)", x.first(0, 4), BAD);
        due("15: first(0, -1)", x.first(0, -1), BAD);
        due("15: nothing changes", x.count(3), 0);
        x.year();
        due("15: from now", x.first(0, 0), 3);
    }

    private static void rounds(String cells, String change, int behind, int of) {
        GlebeVowels x = Due.on("lp;" + cells + ";" + cells.replaceAll("[^/]", "0") + ";a;" + change);
        due("16: round(0) of " + cells + " by " + change, x.round(0), behind);
        due("16: round(1) of " + cells + " by " + change, x.round(1), of);
    }

    /** Promise 16. */
    private static void round() {
        rounds("ae", "eioua", 5, 5);
        rounds("aeiou", "aeiou", 1, 1);
        rounds("--", "eioua", 1, 1);
        rounds("aeiou", "eaoui", 6, 6);
        rounds("ae-", "eaoui", 2, 2);
        rounds("i-", "eaoui", 3, 3);
        rounds("a", "eiouu", 5, 1);
        rounds("o", "eiouu", 2, 1);
        rounds("u", "eiouu", 1, 1);
        rounds("a", "eioui", 5, 3);
        rounds("aeiou", "eioui", 5, 3);
        rounds("aeiou", "uuuuu", 2, 1);
        rounds("ae/ue", "eioue", 5, 4);
        due("16: no land", new GlebeVowels().round(1), NOT);
        due("16: round(2), no land", new GlebeVowels().round(2), BAD);
        GlebeVowels x = Due.on("lp;a;0;a;eioua");
        due("16: round(-1)", x.round(-1), BAD);
        due("16: round(2)", x.round(2), BAD);
        due("16: nothing changes", x.cell(0, 0), 0);
    }

    /** Promise 17. */
    private static void buys() {
        GlebeVowels x = Due.on("lppp;eai/aei/uoa;112/11./...;a,aei,aeiou,e;eioua");
        due("17: a, prices", x.buys(0, 0, -1), 2);
        due("17: a, cell 1 ahead of cell 8", x.buys(0, 0, 0), 1);
        due("17: a, but one", x.buys(0, 0, 1), NONE);
        due("17: aei, prices", x.buys(0, 1, -1), 1 + 2 + 3);
        due("17: aei, 0", x.buys(0, 1, 0), 0);
        due("17: aei, 1", x.buys(0, 1, 1), 1);
        due("17: aei, 2", x.buys(0, 1, 2), 2);
        due("17: aei, 3", x.buys(0, 1, 3), NONE);
        due("17: aei, 2000000000", x.buys(0, 1, 2000000000), NONE);
        due("17: five of three", x.buys(0, 2, -1), NONE);
        due("17: five of three, 0", x.buys(0, 2, 0), NONE);
        due("17: he has e", x.buys(1, 3, -1), 0);
        due("17: he has e, 0", x.buys(1, 3, 0), NONE);
        due("17: he has none", x.buys(0, 3, -1), 1);
        due("17: the rest of five", x.buys(1, 2, -1), 3 + 3 + 4);
        due("17: the rest of five, 0", x.buys(1, 2, 0), 2);
        due("17: the rest of five, 1", x.buys(1, 2, 1), 16);
        due("17: the rest of five, 2", x.buys(1, 2, 2), 17);
        due("17: buys(3, 0, 0)", x.buys(3, 0, 0), BAD);
        due("17: buys(-1, 0, 0)", x.buys(-1, 0, 0), BAD);
        due("17: buys(0, 4, 0)", x.buys(0, 4, 0), BAD);
        due("17: buys(0, -1, 0)", x.buys(0, -1, 0), BAD);
        due("17: buys(0, 0, -2)", x.buys(0, 0, -2), BAD);
        due("17: buys(0, 2, MIN)", x.buys(0, 2, Integer.MIN_VALUE), BAD);
        due("17: nothing changes", x.cell(1, 1), 1);
        due("17: no act", x.count(6), 0);
        GlebeVowels four = Due.on("lpp;aeio;1111;aeio,aei;eioua");
        due("17: no four", four.buys(0, 0, -1), NONE);
        due("17: but three", four.buys(0, 1, -1), 1 + 2 + 3);
        GlebeVowels y = Due.on("lp;-;0;sky;eioua");
        due("17: no vowels", y.buys(0, 0, -1), 0);
        due("17: no vowels, 0", y.buys(0, 0, 0), NONE);
    }

    /** Promise 17: of like prices the fewest, then the first by numbers. */
    private static void buysOfLikePrices() {
        GlebeVowels fewest = Due.on("lnp;ae--/a---/----/aaaa;11../1.../..../0...;a;eioua");
        due("17: nasal, he holds one a", fewest.holder(0, 3), 0);
        due("17: one more a", fewest.buys(0, 0, -1), 1);
        GlebeVowels pair = Due.on("lhp;---/-o-/iu-;111/111/111;ou,iu,i;eioua");
        due("17: heiress, o by 1 (or 8), u by 16", pair.buys(0, 0, -1), 2 + 3);
        due("17: heiress, 1 is ahead of 8", pair.buys(0, 0, 0), 1);
        due("17: heiress, then 16", pair.buys(0, 0, 1), 16);
        due("17: heiress, no more", pair.buys(0, 0, 2), NONE);
        due("17: heiress, i, prices", pair.buys(0, 2, -1), 2);
        due("17: heiress, i, cell 8", pair.buys(0, 2, 0), 8);
        GlebeVowels like = Due.on("lpp;--a-/-e--/e---/a---;1111/1111/1111/1111;ae,e;eioua");
        due("17: like, prices", like.buys(0, 0, -1), 3 + 3);
        due("17: like, the first set", like.buys(0, 0, 0), 2);
        due("17: like, then the next", like.buys(0, 0, 1), 9);
        due("17: like, e alone", like.buys(0, 1, 0), 9);
        GlebeVowels few = Due.on("lbp;a-e/--i;111/111;e,aei;eioua");
        due("17: broad, e by a", few.buys(0, 0, 0), 0);
        due("17: broad, aei by two", few.buys(0, 1, -1), 1 + 3);
        due("17: broad, aei, 1", few.buys(0, 1, 1), 2);
        GlebeVowels one = Due.on("lbp;-ae/-i-/i--;111/111/111;ei,io;eioua");
        due("17: one of price 3 as good as none of less", one.buys(0, 0, -1), 3);
        due("17: e alone makes both", one.buys(0, 0, 0), 2);
        due("17: and nothing else", one.buys(0, 0, 1), NONE);
        due("17: i by price 3, the first", one.buys(0, 1, 0), 9);
        fewestOfLikeSums();
    }

    /** Sets of unlike size that cost as much: 1 + 3 by two, 4 by one. */
    private static void fewestOfLikeSums() {
        GlebeVowels x = Due.on("lbp;aio-/----/----/e---;1111/1111/1111/1111;ei,eio;eioua");
        due("17: a and i cost 3", x.buys(0, 0, -1), 1 + 2);
        GlebeVowels y = Due.on("lbp;a-ie/----/----/----;1111/1111/1111/1111;ei;eioua");
        due("17: two or one, both cost 4", y.buys(0, 0, -1), 4);
        due("17: the one cell", y.buys(0, 0, 0), 3);
        due("17: no other", y.buys(0, 0, 1), NONE);
    }

    /** Promise 17: what a sale takes away, and cells of nobody. */
    private static void buysByHeldBack() {
        GlebeVowels nasal = Due.on("lnp;eaa-/-a--;1111/1111;a,ae;eioua");
        due("17: nasal needs two", nasal.buys(0, 0, -1), 2 + 3);
        due("17: nasal, 0", nasal.buys(0, 0, 0), 1);
        due("17: nasal, 1", nasal.buys(0, 0, 1), 2);
        due("17: nasal, one e alone", nasal.buys(0, 1, -1), NONE);
        GlebeVowels poor = Due.on("lrp;ae-;1.0;a,e;eioua");
        due("17: poor can by nobody's", poor.buys(0, 1, -1), 0);
        due("17: poor cannot buy", poor.buys(0, 0, -1), NONE);
        GlebeVowels free = Due.on("lpp;-a;.1;a;eioua");
        due("17: another one's cell", free.buys(0, 0, 0), 1);
        GlebeVowels nobodys = Due.on("lp;-a;..;a;eioua");
        due("17: a cell of nobody", nobodys.buys(0, 0, 0), 1);
        due("17: its price", nobodys.buys(0, 0, -1), 2);
        GlebeVowels last = Due.on("lpp;------/------/------/------/------/---aei;111111/111111/111111/111111/111111/111111;aei;eioua");
        due("17: the last cells", last.buys(0, 0, -1), 9 + 10 + 11);
        due("17: the last cell", last.buys(0, 0, 2), 45);
    }

    /** Promise 18. */
    private static void scattered() {
        GlebeVowels x = Due.on("ppp", "aaaaaa/aaaaaa/aaaaaa", "01100./10.0.1/.10011");
        due("18: parts of 0", x.scattered(0, 0), 3);
        due("18: greatest of 0", x.scattered(0, 1), 5);
        due("18: parts of 1", x.scattered(1, 0), 4);
        due("18: greatest of 1", x.scattered(1, 1), 3);
        due("18: parts of none", x.scattered(2, 0), 0);
        due("18: greatest of none", x.scattered(2, 1), 0);
        due("18: scattered(3, 0)", x.scattered(3, 0), BAD);
        due("18: scattered(-1, 0)", x.scattered(-1, 0), BAD);
        due("18: scattered(0, 2)", x.scattered(0, 2), BAD);
        due("18: scattered(0, -1)", x.scattered(0, -1), BAD);
        GlebeVowels snake = Due.on("pp", "aaaaaa/aaaaaa/aaaaaa/aaaaaa/aaaaaa/aaaaaa",
            "000000/111110/000000/011111/000000/111110");
        due("18: one long part", snake.scattered(0, 0), 1);
        due("18: its cells", snake.scattered(0, 1), 26 - 1 + 1 - 5);
        due("18: the rest's parts", snake.scattered(1, 0), 3);
        due("18: the rest's greatest", snake.scattered(1, 1), 5);
        GlebeVowels whole = Due.on("p", "aaaaaa/aaaaaa/aaaaaa/aaaaaa/aaaaaa/aaaaaa",
            "000000/000000/000000/000000/000000/000000");
        due("18: all one part", whole.scattered(0, 0), 1);
        due("18: of 36", whole.scattered(0, 1), 36);
        GlebeVowels edge = Due.on("pp", "aaaaaa/aaaaaa", "111110/011111");
        due("18: the ends of two rows are two parts", edge.scattered(0, 0), 2);
        GlebeVowels diagonal = Due.on("pp", "aaa/aaa/aaa", "010/101/010");
        due("18: corners are no neighbours", diagonal.scattered(0, 0), 5);
        due("18: nor the middle ones", diagonal.scattered(1, 0), 4);
    }

    /** 0 says ae, 1 says ei, 2 says i, 3 says aei, 4 none. */
    private static GlebeVowels talkers() {
        return Due.on("lppppp;ae/ei/i-/ae/i-/--;00/11/2./33/3./4.;y;eioua");
    }

    /** Promise 19. */
    private static void talk() {
        GlebeVowels x = talkers();
        due("19: talk(0, 1)", x.talk(0, 1), Due.set(1, 3));
        due("19: talk(0, 2)", x.talk(0, 2), Due.set(3));
        due("19: talk(0, 3)", x.talk(0, 3), 0);
        due("19: talk(1, 1)", x.talk(1, 1), Due.set(0, 2, 3));
        due("19: talk(2, 1)", x.talk(2, 1), Due.set(1, 3));
        due("19: talk(3, 2)", x.talk(3, 2), Due.set(0, 1));
        due("19: talk(3, 3)", x.talk(3, 3), 0);
        due("19: talk(4, 1)", x.talk(4, 1), 0);
        due("19: talk(0, 5)", x.talk(0, 5), 0);
        due("19: talk(0, 0)", x.talk(0, 0), BAD);
        due("19: talk(0, 6)", x.talk(0, 6), BAD);
        due("19: talk(5, 1)", x.talk(5, 1), BAD);
        due("19: talk(-1, 1)", x.talk(-1, 1), BAD);
        due("19: no land", new GlebeVowels().talk(0, 1), BAD);
        GlebeVowels five = Due.on("lpp;aeiou/aeiou;00000/11111;y;eioua");
        due("19: all five alike", five.talk(1, 5), Due.set(0));
    }

    private static void mates(String name, GlebeVowels x, int m, int pairs, int... mates) {
        due("20: " + name + ", pairs by " + m, x.marry(NONE, m), pairs);
        for (int one = 0; one < mates.length; one++) {
            due("20: " + name + ", mate of " + one + " by " + m, x.marry(one, m), mates[one]);
        }
    }

    /** Promise 20. */
    private static void marry() {
        GlebeVowels x = talkers();
        mates("talkers", x, 1, 2, 1, 0, 3, 2, NONE);
        mates("talkers", x, 2, 1, 3, NONE, NONE, 0, NONE);
        mates("talkers", x, 3, 0, NONE, NONE, NONE, NONE, NONE);
        due("20: marry(5, 1)", x.marry(5, 1), BAD);
        due("20: marry(-1, 1)", x.marry(-1, 1), BAD);
        due("20: marry(NONE, 0)", x.marry(NONE, 0), BAD);
        due("20: marry(NONE, 6)", x.marry(NONE, 6), BAD);
        due("20: marry(0, 6)", x.marry(0, 6), BAD);
        GlebeVowels none = new GlebeVowels();
        due("20: no land, NONE", none.marry(NONE, 1), NOT);
        due("20: no land, bad ahead", none.marry(NONE, 6), BAD);
        due("20: no land, 0", none.marry(0, 1), BAD);
    }

    /** Promise 20: the most ahead of the first, then the lesser mate, none last. */
    private static void marryTheFirstWay() {
        GlebeVowels all = Due.on("lpppppp;aaaaaa;012345;y;eioua");
        mates("all talk", all, 1, 3, 1, 0, 3, 2, 5, 4);
        GlebeVowels odd = Due.on("lppppp;aaaaa;01234;y;eioua");
        mates("five talk", odd, 1, 2, 1, 0, 3, 2, NONE);
        GlebeVowels path = Due.on("lpppp;ae/ei/a-/i-;00/11/2./3.;y;eioua");
        mates("0 waives 1 for the most", path, 1, 2, 2, 3, 0, 1);
        GlebeVowels star = Due.on("lpppp;a-/e-/i-/ae/i-;0./1./2./33/3.;y;eioua");
        mates("only 3 talks", star, 1, 1, 3, NONE, NONE, 0);
        GlebeVowels six = Due.on("lpppppp;aei/ae-/i--/ou-/o--/u--;000/11./2../33./4../5..;y;eioua");
        mates("six", six, 1, 2, 1, 0, NONE, 4, 3, NONE);
        GlebeVowels cross = Due.on("lpppppp;a--/e--/i--/ai-/ei-/ae-;0../1../2../33./44./55.;y;eioua");
        mates("three by three", cross, 1, 3, 3, 5, 4, 0, 2, 1);
    }

    /** Promise 21. */
    private static void letters() {
        GlebeVowels x = Due.on("lppppp;aeiou/aeiou/aei--/a----/-----;00000/11111/222../3..../4....;y;eioua");
        int[] qs = {1, 2, 5, 6, 25, 26, 125, 126, 625, 626, 1000000};
        int[] fives = {0, 1, 1, 2, 2, 3, 3, 4, 4, 5, 9};
        for (int k = 0; k < qs.length; k++) {
            due("21: letters(0, 1, " + qs[k] + ")", x.letters(0, 1, qs[k]), fives[k]);
        }
        due("21: three, 3", x.letters(0, 2, 3), 1);
        due("21: three, 4", x.letters(2, 0, 4), 2);
        due("21: three, 9", x.letters(0, 2, 9), 2);
        due("21: three, 10", x.letters(0, 2, 10), 3);
        due("21: one, 1", x.letters(0, 3, 1), 0);
        due("21: one, 2", x.letters(0, 3, 2), NONE);
        due("21: none, 1", x.letters(0, 4, 1), 0);
        due("21: none, 2", x.letters(0, 4, 2), NONE);
        due("21: none, 1000000", x.letters(3, 4, 1000000), NONE);
        due("21: q 0", x.letters(0, 1, 0), BAD);
        due("21: q 1000001", x.letters(0, 1, 1000001), BAD);
        due("21: the same", x.letters(0, 0, 1), BAD);
        due("21: no such one", x.letters(5, 0, 1), BAD);
        due("21: no such other", x.letters(0, 5, 1), BAD);
        due("21: one -1", x.letters(-1, 0, 1), BAD);
        due("21: other -1", x.letters(0, -1, 1), BAD);
        GlebeVowels two = Due.on("lpp;ae/ae;00/11;y;eioua");
        due("21: two, 524288", two.letters(0, 1, 524288), 19);
        due("21: two, 524289", two.letters(0, 1, 524289), 20);
        due("21: two, 1000000", two.letters(0, 1, 1000000), 20);
    }

    /** Promise 22. */
    private static void holdings() {
        GlebeVowels x = Due.on("lp;aae/-ei;000/...;y;eioua");
        int e = Due.set(1);
        int ae = Due.set(0, 1);
        due("22: one e", x.holdings(0, 1, e, 0), 2);
        due("22: of all", x.holdings(0, 1, e, 1), 6);
        due("22: none heard", x.holdings(0, 1, 0, 0), 1);
        due("22: two, e", x.holdings(0, 2, e, 0), 1 + 2);
        due("22: two of all", x.holdings(0, 2, e, 1), 15);
        due("22: two, a and e", x.holdings(0, 2, ae, 0), 4);
        due("22: three, a and e", x.holdings(0, 3, ae, 0), 4 + 2 + 2);
        due("22: three of all", x.holdings(0, 3, 31, 1), 20);
        due("22: three, five vowels", x.holdings(0, 3, 31, 0), 0);
        due("22: holdings(1, ..)", x.holdings(1, 1, 0, 0), BAD);
        due("22: holdings(-1, ..)", x.holdings(-1, 1, 0, 0), BAD);
        due("22: n 0", x.holdings(0, 0, 0, 0), BAD);
        due("22: n 4", x.holdings(0, 4, 0, 0), BAD);
        due("22: heard 32", x.holdings(0, 1, 32, 0), BAD);
        due("22: heard -1", x.holdings(0, 1, -1, 0), BAD);
        due("22: what 3", x.holdings(0, 1, 0, 3), BAD);
        due("22: what -1", x.holdings(0, 1, 0, -1), BAD);
        due("22: nothing changes", x.holder(0, 1), 3);
        GlebeVowels little = Due.on("lp;ae;..;y;eioua");
        due("22: three of two cells", little.holdings(0, 3, 0, 1), 0);
        due("22: none of them", little.holdings(0, 3, 0, 0), 0);
        due("22: none to ask", little.holdings(0, 3, 0, 2), NONE);
        due("22: two of two", little.holdings(0, 2, 3, 1), 1);
    }

    /** Promise 22: others' cells may be his then, his own are nobody's, others hold on. */
    private static void holdingsOfOthers() {
        GlebeVowels poor = Due.on("lrp;aei;01.;y;eioua");
        due("22: poor, his a and i are nobody's", poor.holdings(0, 1, Due.set(0, 2), 0), 1);
        due("22: poor, that is by cell 1", poor.holdings(0, 1, Due.set(0, 2), 2), 0);
        due("22: poor, i by cell 0", poor.holdings(0, 1, Due.set(2), 0), 1);
        due("22: poor, a by cell 2", poor.holdings(0, 1, Due.set(0), 0), 1);
        due("22: poor, none", poor.holdings(0, 1, 0, 0), 0);
        GlebeVowels heiress = Due.on("lhp;aei-;0111;y;eioua");
        due("22: heiress at 0", heiress.holdings(0, 1, Due.set(1), 0), 1);
        due("22: heiress at 1 or 3", heiress.holdings(0, 1, Due.set(0, 2), 0), 2);
        due("22: heiress at 2", heiress.holdings(0, 1, Due.set(0, 1), 0), 1);
        due("22: heiress, of all", heiress.holdings(0, 1, Due.set(0, 2), 1), 4);
        GlebeVowels great = Due.on("p", "aaaaaa/aaaaaa/aaaaaa/aaaaaa/aaaaaa/aaaaae",
            "....../....../....../....../....../......");
        due("22: 36 by three", great.holdings(0, 3, 1, 1), 7140);
        due("22: 35 by three", great.holdings(0, 3, 1, 0), 6545);
        due("22: with the e", great.holdings(0, 3, 3, 0), 595);
        due("22: the e is in all, the others in few", great.holdings(0, 3, 3, 2), 0);
    }

    /** Promise 22: NEXT. */
    private static void holdingsNext() {
        GlebeVowels x = Due.on("lp;aae/-ei;000/...;y;eioua");
        due("22: e, both are in half", x.holdings(0, 1, Due.set(1), 2), 2);
        due("22: one set alone, all are like", x.holdings(0, 1, Due.set(2), 2), 0);
        due("22: a and e, each in half", x.holdings(0, 2, Due.set(0, 1), 2), 0);
        due("22: none", x.holdings(0, 1, 31, 2), NONE);
        GlebeVowels y = Due.on("lp;-aaae/o----;...../.....;y;eioua");
        due("22: a and e: e in all, a in a third", y.holdings(0, 2, Due.set(0, 1), 2), 1);
        GlebeVowels z = Due.on("lp;-ee-;....;y;eioua");
        due("22: z: five of six", z.holdings(0, 2, Due.set(1), 0), 5);
        due("22: e in three of five, air in two", z.holdings(0, 2, Due.set(1), 2), 0);
        GlebeVowels w = Due.on("lp;--eo/e---;..../....;y;eioua");
        due("22: w: sets", w.holdings(0, 2, Due.set(1), 0), 11);
        due("22: w: e in six, air in two", w.holdings(0, 2, Due.set(1), 2), 2);
    }

    /** Promise 23. */
    private static void take() {
        GlebeVowels x = Due.on("lppr;aei-;..01;y;eioua");
        due("23: n 0", x.take(0, 1, 0), 1);
        due("23: n 0, the other way", x.take(1, 0, 0), -1);
        due("23: one turn each", x.take(0, 1, 1), 1 + 1 - 1);
        due("23: the other way", x.take(1, 0, 1), 1 - 2);
        due("23: two turns each", x.take(0, 1, 2), 1 + 1 - 1);
        due("23: poor of the first two", x.take(2, 0, 0), 2 - 1);
        due("23: poor takes none, the other takes", x.take(2, 0, 1), 1 - 2);
        due("23: the one takes, poor takes none", x.take(0, 2, 1), 2 - 1);
        due("23: the same", x.take(0, 0, 1), BAD);
        due("23: n 3", x.take(0, 1, 3), BAD);
        due("23: n -1", x.take(0, 1, -1), BAD);
        due("23: no such one", x.take(3, 0, 1), BAD);
        due("23: no such other", x.take(0, 3, 1), BAD);
        due("23: one -1", x.take(-1, 0, 1), BAD);
        due("23: other -1", x.take(0, -1, 1), BAD);
        due("23: nothing changes", x.count(5), 2);
        due("23: no act", x.count(6), 0);
        GlebeVowels none = Due.on("lpp;ae;01;y;eioua");
        due("23: nothing to take", none.take(0, 1, 2), 0);
        GlebeVowels nasal = Due.on("lnp;a-/a-;0./11;y;eioua");
        due("23: nasal, none is best", nasal.take(0, 1, 1), -1);
    }

    /** Promise 23: the first six of nobody now, no more as they are taken. */
    private static void takeOfSix() {
        GlebeVowels x = Due.on("lpp;-----a/eiou--;....../......;y;eioua");
        due("23: one a for the first", x.take(0, 1, 1), 1);
        due("23: nothing behind the sixth", x.take(0, 1, 2), 1);
        GlebeVowels y = Due.on("lpp;aeiou-/aeiou-;....../......;y;eioua");
        due("23: as many each", y.take(0, 1, 2), 0);
        GlebeVowels z = Due.on("lpp;111111/------;0.0.0./.1.1.1;y;eioua".replace("111111", "a-a-a-"));
        due("23: air alone to take", z.take(0, 1, 2), 1);
        GlebeVowels w = Due.on("lpp;aeo/iu-;.../...;y;eioua");
        due("23: five vowels, two turns each", w.take(0, 1, 2), 0);
        GlebeVowels v = Due.on("lpp;aeoi/u---;..../1...;y;eioua");
        due("23: the other has u", v.take(0, 1, 1), 1 - 2);
        due("23: the one has u", v.take(1, 0, 1), 2 - 1);
    }

    private static void chances(GlebeVowels x, int one, int word, int n, int above, int below) {
        due("24: chance(" + one + ", " + word + ", " + n + ", 0)", x.chance(one, word, n, 0), above);
        due("24: chance(" + one + ", " + word + ", " + n + ", 1)", x.chance(one, word, n, 1), below);
    }

    /** Promise 24. */
    private static void chance() {
        GlebeVowels x = Due.on("lpp;aae/--i;111/0..;a,ae,u,aei;eioua");
        chances(x, 0, 0, 0, 0, 1);
        chances(x, 0, 0, 1, 1, 3);
        chances(x, 0, 0, 2, 5, 9);
        chances(x, 0, 1, 0, 0, 1);
        chances(x, 0, 1, 1, 0, 1);
        chances(x, 0, 1, 2, 1, 9);
        chances(x, 0, 2, 2, 0, 1);
        chances(x, 0, 3, 2, 0, 1);
        chances(x, 1, 0, 0, 1, 1);
        chances(x, 1, 0, 2, 1, 1);
        chances(x, 1, 3, 1, 1, 6);
        chances(x, 1, 3, 2, 11, 36);
        due("24: chance(2, ..)", x.chance(2, 0, 1, 0), BAD);
        due("24: chance(-1, ..)", x.chance(-1, 0, 1, 0), BAD);
        due("24: word 4", x.chance(0, 4, 1, 0), BAD);
        due("24: word -1", x.chance(0, -1, 1, 0), BAD);
        due("24: n 3", x.chance(0, 0, 3, 0), BAD);
        due("24: n -1", x.chance(0, 0, -1, 0), BAD);
        due("24: what 2", x.chance(0, 0, 1, 2), BAD);
        due("24: what -1", x.chance(0, 0, 1, -1), BAD);
        due("24: nothing changes", x.holder(0, 1), 1);
        GlebeVowels y = Due.on("lp;ae;0.;sky;eioua");
        chances(y, 0, 0, 0, 1, 1);
        chances(y, 0, 0, 1, 1, 1);
        chances(y, 0, 0, 2, 1, 1);
        GlebeVowels great = Due.on("lpp;a-----/------/------/------/------/------;" + "111111/".repeat(5) + "111111;a;eioua");
        chances(great, 0, 0, 2, 71, 1296);
    }

    /** Promise 24: sales that take a vowel away. */
    private static void chanceLost() {
        GlebeVowels poor = Due.on("lrp;aae;..1;a;eioua");
        chances(poor, 0, 0, 1, 1, 1);
        chances(poor, 0, 0, 2, 7, 9);
        GlebeVowels nasal = Due.on("lnp;aa-;111;a;eioua");
        chances(nasal, 0, 0, 1, 0, 1);
        chances(nasal, 0, 0, 2, 2, 9);
    }

    /** Promise 25. */
    private static void drawn() {
        GlebeVowels x = Due.on("lppp;aei/---;112/...;y;eioua");
        due("25: n 0, who", x.drawn(0, 1, 0), 1);
        due("25: n 0, of nobody", x.drawn(0, 1, 1), 3);
        due("25: n -1", x.drawn(-1, 1, 0), BAD);
        due("25: n 41", x.drawn(41, 1, 0), BAD);
        due("25: seed 0", x.drawn(1, 0, 0), BAD);
        due("25: seed 1000000", x.drawn(1, 1000000, 0), BAD);
        due("25: what 2", x.drawn(1, 1, 2), BAD);
        due("25: what -1", x.drawn(1, 1, -1), BAD);
        due("25: no land", new GlebeVowels().drawn(0, 1, 0), NOT);
        due("25: no land, bad ahead", new GlebeVowels().drawn(0, 1, 2), BAD);
        due("25: n 40, seed 999999", x.drawn(40, 999999, 1) >= 0 ? 1 : 0, 1);
        due("25: nothing is drawn for good, who", x.drawn(0, 1, 0), 1);
        due("25: nothing is drawn for good, of nobody", x.drawn(0, 1, 1), 3);
        due("25: nothing changes, of nobody", x.count(5), 3);
        due("25: nothing changes, the year", x.count(3), 0);
        due("25: nothing changes, a sound", x.cell(0, 0), 0);
        GlebeVowels like = Due.on("lpppp;aeie;1223;y;eioua");
        due("25: 2 says two", like.drawn(0, 5, 0), 2);
        GlebeVowels tie = Due.on("lpppp;aeiou-;.11322;y;eioua");
        due("25: of several the first", tie.drawn(0, 5, 0), 1);
    }

    /**
     * Promise 25: X is 16807, then 282475249, then 1622650073 from seed 1. Of six cells that is
     * 1, 1, 5; by 8 it is 2100, 35309406, 202831259: of three holders 0, 0, 2.
     */
    private static void drawnByHand() {
        String cells = "aei/o-u";
        due("25: X 1", 16807 % 6, 1);
        due("25: X 2", 282475249 % 6, 1);
        due("25: X 3", 1622650073 % 6, 5);
        due("25: to 1", 16807 / 8 % 3, 0);
        due("25: to 2", 282475249 / 8 % 3, 0);
        due("25: to 3", 1622650073 / 8 % 3, 2);
        GlebeVowels x = Due.on("lppp;" + cells + ";.../...;y;aeiou");
        due("25: 1, of nobody", x.drawn(1, 1, 1), 5);
        due("25: 2, of nobody", x.drawn(2, 1, 1), 5);
        due("25: 3, of nobody", x.drawn(3, 1, 1), 4);
        due("25: 3, 0 and 2 say one", x.drawn(3, 1, 0), 0);
        GlebeVowels y = Due.on("lppp;" + cells + ";.../2..;y;aeiou");
        due("25: 2, 0 and 2 say one", y.drawn(2, 1, 0), 0);
        due("25: 3, 2 says o and u", y.drawn(3, 1, 0), 2);
        due("25: one cell", Due.on("lp;a;.;y;aeiou").drawn(1, 1, 1), 0);
        due("25: one row of two", Due.on("lp;ae;..;y;aeiou").drawn(1, 1, 1), 1);
        due("25: one column of two", Due.on("lpp;a/e;./.;y;aeiou").drawn(1, 1, 1), 1);
        GlebeVowels z = Due.on("lppp;" + cells + ";.../2..;y;aeiuu");
        due("25: 3, by years 2 says but u", z.drawn(3, 1, 0), 0);
    }
}
