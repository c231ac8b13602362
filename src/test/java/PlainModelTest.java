import java.util.Random;

/**
 * Promises 1 to 32: long runs of calls, the same on each start, on the class and on the plain
 * model side by side. An argument, if there is one, is how many runs there are.
 */
public final class PlainModelTest {
    private static final int CALLS = 512;

    private final Random random;
    private final int run;
    private final GlebeVowels x = new GlebeVowels();
    private final PlainModel model = new PlainModel();
    private int calls = 0;
    private String last = "";

    private PlainModelTest(int run) {
        this.run = run;
        this.random = new Random(7919L * run + 13);
    }

    public static void main(String[] args) {
        int runs = args.length > 0 ? Integer.parseInt(args[0]) : 150;
        for (int run = 0; run < runs; run++) {
            new PlainModelTest(run).play();
        }
        Due.end();
    }

    private void play() {
        for (int k = run % 3 == 0 ? 0 : 4; k > 0; k--) {
            int lane = to(3) == 0 ? to(4) : run % 4;
            int n = to(2) == 0 ? 24 : to(25);
            same("sheet(" + (k - 1) + ", " + lane + ", " + n + ")", x.sheet(k - 1, lane, n), model.sheet(k - 1, lane, n));
        }
        boolean early = random.nextInt(4) == 0;
        int firstCalls = early ? 60 : 0;
        while (calls < firstCalls) {
            oneCall();
        }
        while (calls < CALLS) {
            if (calls + 135 < CALLS && (model.now == null || random.nextInt(120) == 0)) {
                readSome();
            }
            oneCall();
        }
    }

    private int to(int bound) {
        return random.nextInt(bound);
    }

    private char one(String of) {
        return of.charAt(to(of.length()));
    }

    private String row(int n, String of) {
        StringBuilder text = new StringBuilder();
        for (int k = 0; k < n; k++) {
            text.append(one(of));
        }
        return text.toString();
    }

    private String landText() {
        String[] palettes = {"aeiou-", "aeiou", "aei", "ae-", "aaaae", "uoiiii-", "a", "-", "ou"};
        String[] changes = {"eioua", "aeiou", "aaaaa", "eiouu", "eaoui", "uaeio", "aaeio"};
        boolean great = to(3) == 0;
        int rows = great ? 5 + to(2) : 1 + to(5);
        int columns = great ? 5 + to(2) : 1 + to(6);
        int holders = to(3) == 0 ? 6 : 1 + to(6);
        String sounds = palettes[to(palettes.length)];
        String figures = "012345".substring(0, holders) + (to(2) == 0 ? "." : "....");
        StringBuilder text = new StringBuilder("l").append(row(holders, "pbnrh")).append(';');
        for (int r = 0; r < rows; r++) {
            text.append(r == 0 ? "" : "/").append(row(columns, sounds));
        }
        text.append(';');
        for (int r = 0; r < rows; r++) {
            text.append(r == 0 ? "" : "/").append(row(columns, figures));
        }
        text.append(';');
        int words = 1 + to(4);
        for (int w = 0; w < words; w++) {
            text.append(w == 0 ? "" : ",").append(row(1 + to(6), to(2) == 0 ? "aeioubcz" : "aexyzzz"));
        }
        text.append(';').append(to(2) == 0 ? row(5, "aeiou") : changes[to(changes.length)]);
        return text.toString();
    }

    /** At times a byte of it is another one, is missing, or comes twice. */
    private String spoiltText() {
        StringBuilder text = new StringBuilder(landText());
        int at = to(text.length());
        switch (to(10)) {
            case 0:
                text.setCharAt(at, one("l;/,.-aeioupbnrh0123456z"));
                break;
            case 1:
                text.deleteCharAt(at);
                break;
            case 2:
                text.insert(at, one("l;/,.-aeioupbnrh0123456z"));
                break;
            case 3:
                text.setLength(at);
                break;
            default:
                break;
        }
        return text.toString();
    }

    private void readSome() {
        String text = spoiltText();
        for (int i = 0; i < text.length() && calls < CALLS - 1; i++) {
            int sign = text.charAt(i);
            same("feed(" + sign + ")", x.feed(sign), model.feed(sign));
        }
        same("land()", x.land(), model.land());
        last = text;
    }

    private void same(String call, long got, long want) {
        calls++;
        Due.due("run " + run + " call " + calls + " (land " + last + ") " + call, got, want);
    }

    /** Mostly from least to greatest, at times just outside, and now and then far outside. */
    private int about(int least, int greatest) {
        int how = to(40);
        if (how == 0) {
            return least - 1;
        }
        if (how == 1) {
            return greatest + 1;
        }
        if (how == 2 && to(3) == 0) {
            int[] far = {Integer.MIN_VALUE, Integer.MAX_VALUE, -4, 64, -64, 1 << 31 | 3};
            return far[to(far.length)];
        }
        return least + to(greatest - least + 1);
    }

    private int someone() {
        return model.now == null ? about(0, 5) : about(0, model.now.kinds.length() - 1);
    }

    private int someoneOrNone() {
        return to(4) == 0 ? -4 : someone();
    }

    private int someWord() {
        return model.now == null ? about(0, 3) : about(0, model.now.words.length - 1);
    }

    private int someCell() {
        if (model.now == null || to(30) == 0) {
            return about(0, 45);
        }
        return 8 * about(0, model.now.sound.length - 1) + about(0, model.now.sound[0].length - 1);
    }

    private int someItem() {
        return to(5) == 0 ? about(0, 24) : about(0, 3);
    }

    private void oneCall() {
        switch (to(12)) {
            case 0:
            case 1:
                tellSome();
                break;
            case 2:
            case 3:
            case 4:
                actSome();
                break;
            case 5:
            case 6:
                foretellYears();
                break;
            case 7:
                foretellTwo();
                break;
            case 8:
                foretellSales();
                break;
            case 9:
            case 10:
                fillSheets();
                break;
            default:
                workSheets();
                break;
        }
    }

    private void tellSome() {
        int a;
        int b;
        switch (to(8)) {
            case 0:
                a = someone();
                b = about(0, 5);
                same("holder(" + a + ", " + b + ")", x.holder(a, b), model.holder(a, b));
                break;
            case 1:
                a = someCell();
                b = about(0, 2);
                same("cell(" + a + ", " + b + ")", x.cell(a, b), model.cell(a, b));
                break;
            case 2:
                a = someWord();
                b = about(0, 2);
                same("word(" + a + ", " + b + ")", x.word(a, b), model.word(a, b));
                break;
            case 3:
                a = someone();
                b = about(0, 5);
                same("as(" + a + ", " + b + ")", x.as(a, b), model.as(a, b));
                break;
            case 4:
                if (to(3) == 0) {
                    a = about(0, 255);
                    same("feed(" + a + ")", x.feed(a), model.feed(a));
                    break;
                }
                if (to(10) == 0) {
                    same("land()", x.land(), model.land());
                }
                break;
            default:
                a = about(0, 9);
                same("count(" + a + ")", x.count(a), model.count(a));
                break;
        }
    }

    private void actSome() {
        int a = someCell();
        int b;
        switch (to(10)) {
            case 0:
            case 1:
            case 2:
                b = someoneOrNone();
                same("sell(" + a + ", " + b + ")", x.sell(a, b), model.sell(a, b));
                break;
            case 3:
            case 4:
            case 5:
                b = about(0, 5);
                same("plough(" + a + ", " + b + ")", x.plough(a, b), model.plough(a, b));
                break;
            case 6:
                same("year()", x.year(), model.year());
                break;
            case 7:
            case 8:
                for (int k = to(12) == 0 ? 30 : 1; k > 0 && calls < CALLS; k--) {
                    same("undo()", x.undo(), model.undo());
                }
                break;
            default:
                a = about(0, 1);
                if (to(3) == 0) {
                    same("restore(" + a + ")", x.restore(a), model.restore(a));
                } else {
                    same("image(" + a + ")", x.image(a), model.image(a));
                }
                break;
        }
    }

    private void foretellYears() {
        int a = someone();
        int b;
        switch (to(5)) {
            case 0:
                b = about(0, to(3) == 0 ? 60 : 7);
                same("behind(" + a + ", " + b + ")", x.behind(a, b), model.behind(a, b));
                break;
            case 1:
                b = someWord();
                same("first(" + a + ", " + b + ")", x.first(a, b), model.first(a, b));
                break;
            case 2:
                b = about(0, 1);
                same("round(" + b + ")", x.round(b), model.round(b));
                break;
            case 3:
                b = about(0, 1);
                same("scattered(" + a + ", " + b + ")", x.scattered(a, b), model.scattered(a, b));
                break;
            default:
                int n = about(0, 40);
                int seed = to(2) == 0 ? about(1, 20) : about(1, 999999);
                int what = about(0, 1);
                same("drawn(" + n + ", " + seed + ", " + what + ")", x.drawn(n, seed, what), model.drawn(n, seed, what));
                break;
        }
    }

    private void foretellTwo() {
        int a = someone();
        int b = someone();
        int m = about(1, 5);
        switch (to(4)) {
            case 0:
                same("talk(" + a + ", " + m + ")", x.talk(a, m), model.talk(a, m));
                break;
            case 1:
                a = someoneOrNone();
                m = to(2) == 0 ? 1 : m;
                same("marry(" + a + ", " + m + ")", x.marry(a, m), model.marry(a, m));
                break;
            case 2:
                int[] many = {1, 2, 3, 4, 5, 8, 9, 16, 25, 26, 125, 243, 244, 1000000, 1000001, 0};
                int q = many[to(many.length)];
                same("letters(" + a + ", " + b + ", " + q + ")", x.letters(a, b, q), model.letters(a, b, q));
                break;
            default:
                int n = about(0, 2);
                same("take(" + a + ", " + b + ", " + n + ")", x.take(a, b, n), model.take(a, b, n));
                break;
        }
    }

    private void foretellSales() {
        int a = someone();
        int b = someWord();
        int n;
        int what;
        switch (to(3)) {
            case 0:
                n = about(-1, 3);
                same("buys(" + a + ", " + b + ", " + n + ")", x.buys(a, b, n), model.buys(a, b, n));
                break;
            case 1:
                n = about(0, 2);
                what = about(0, 1);
                same("chance(" + a + ", " + b + ", " + n + ", " + what + ")",
                    x.chance(a, b, n, what), model.chance(a, b, n, what));
                break;
            default:
                n = to(3) == 0 ? about(1, 3) : about(1, 2);
                what = about(0, 2);
                int heard = to(2) == 0 ? about(0, 31) : Math.max(0, model.behind(a, to(2)));
                same("holdings(" + a + ", " + n + ", " + heard + ", " + what + ")",
                    x.holdings(a, n, heard, what), model.holdings(a, n, heard, what));
                break;
        }
    }

    private int laneOf(int sheet) {
        if (sheet < 0 || sheet > 3 || model.sheets[sheet] == null || to(10) == 0) {
            return about(0, 3);
        }
        return PlainModel.laneOf(model.sheets[sheet]);
    }

    private void fillSheets() {
        int a = about(0, 3);
        int lane = laneOf(a);
        int i = someItem();
        switch (to(8)) {
            case 0:
                lane = about(0, 3);
                i = to(2) == 0 ? about(0, 24) : about(0, 6);
                same("sheet(" + a + ", " + lane + ", " + i + ")", x.sheet(a, lane, i), model.sheet(a, lane, i));
                break;
            case 1:
                if (to(8) == 0) {
                    same("drop(" + a + ")", x.drop(a), model.drop(a));
                }
                break;
            case 2:
                long[] far = {127, 128, 255, -129, 32768, 65535, 1L << 31, 1L << 32, Long.MIN_VALUE, -1, 5};
                long v = to(3) == 0 ? random.nextLong() : far[to(far.length)];
                same("item(" + a + ", " + lane + ", " + i + ", " + v + ")", x.item(a, lane, i, v), model.item(a, lane, i, v));
                break;
            default:
                for (int k = 0; k < 6 && calls < CALLS; k++) {
                    v = to(5);
                    same("item(" + a + ", " + lane + ", " + k + ", " + v + ")", x.item(a, lane, k, v), model.item(a, lane, k, v));
                }
                break;
        }
    }

    private void workSheets() {
        int a = about(0, 3);
        int i = someItem();
        int n = to(4) == 0 ? about(0, 24) : about(1, 4);
        switch (to(3)) {
            case 0:
                int b = about(0, 3);
                int j = someItem();
                n = to(8) == 0 ? about(0, Integer.MAX_VALUE - 1) : n;
                same("copy(" + a + ", " + i + ", " + b + ", " + j + ", " + n + ")", x.copy(a, i, b, j, n), model.copy(a, i, b, j, n));
                break;
            case 1:
                int who = someone();
                int lane = laneOf(a);
                same("film(" + who + ", " + n + ", " + a + ", " + lane + ", " + i + ")",
                    x.film(who, n, a, lane, i), model.film(who, n, a, lane, i));
                break;
            default:
                int vowel = to(3) == 0 ? -4 : about(0, 4);
                int pairs = to(8) == 0 ? about(1, 12) : about(1, 3);
                int from = to(3) == 0 ? i : 0;
                int of = laneOf(a);
                same("changes(" + a + ", " + of + ", " + from + ", " + pairs + ", " + vowel + ")",
                    x.changes(a, of, from, pairs, vowel), model.changes(a, of, from, pairs, vowel));
                break;
        }
    }
}
