import java.util.Arrays;

/**
 * Objects in a known state, and all that such an object can tell. Some of it is told only by acts
 * (what lies behind undo, restore and land), so that each probe wants an object of its own; base,
 * call and probe together stay below the 512 calls that an object is good for.
 */
final class Probe {
    static final String LAND = "lphn;aei/o-u;012/.0.;cat,queue;eioua";
    static final String TAPE = "lbr;ou/-a;.1/01;sea,you;aeiou";
    static final int NONE = GlebeVowels.NONE;

    static final String[] PROBES = {"what is told", "the sheets", "the acts", "image 0", "image 1", "the tape"};
    static final int TOLD = 0, SHEETS = 1, ACTS = 2, IMAGE_0 = 3, IMAGE_1 = 4, THE_TAPE = 5;

    private Probe() {
    }

    interface Call {
        long on(GlebeVowels x);
    }

    static final int FULL = 0, BARE = 1, BRIMFUL = 2;
    static final String[] BASES = {"full", "bare", "brimful"};
    private static final long[][][] BEFORE = new long[BASES.length][][];

    static GlebeVowels make(int base) {
        return base == FULL ? full() : base == BARE ? bare() : brimful();
    }

    /** Behind the call, all that these probes find is as it was before. */
    static void leaves(int base, String text, Call call, int... probes) {
        if (BEFORE[base] == null) {
            BEFORE[base] = new long[PROBES.length][];
            for (int probe = 0; probe < PROBES.length; probe++) {
                BEFORE[base][probe] = ask(probe, make(base));
            }
        }
        for (int probe : probes) {
            GlebeVowels x = make(base);
            call.on(x);
            int at = Arrays.mismatch(ask(probe, x), BEFORE[base][probe]);
            Due.due(PROBES[probe] + ", changed by " + text + " on " + BASES[base] + ", answer", at, -1);
        }
    }

    /** Behind the call, all is as it was before. */
    static void leavesAll(int base, String text, Call call) {
        leaves(base, text, call, TOLD, SHEETS, ACTS, IMAGE_0, IMAGE_1, THE_TAPE);
    }

    /**
     * A land in year 1 with four acts, an image 0 of year 0, no image 1, a land on the tape, and
     * sheets 0 (ints 0 1 2 3 4 0), 1 (24 bytes), 2 (longs, no item) and 3 (nothing). Its cells sound
     * uio/u-a now, and are of 01./10. (one figure a holder).
     */
    private static GlebeVowels full() {
        GlebeVowels x = Due.on(LAND);
        x.image(0);
        x.sell(8, 1);
        x.plough(0, 3);
        x.year();
        x.sell(2, NONE);
        Due.feed(x, TAPE);
        sheets(x);
        return x;
    }

    /** No land, but a tape and sheets. */
    private static GlebeVowels bare() {
        GlebeVowels x = new GlebeVowels();
        Due.feed(x, TAPE);
        sheets(x);
        return x;
    }

    /** As many acts as can be undone, both images, and a tape that is full, with a fault at 7. */
    private static GlebeVowels brimful() {
        GlebeVowels x = Due.on(LAND);
        x.image(0);
        for (int k = 1; k <= 26; k++) {
            x.plough(k % 2 == 0 ? 0 : 10, k % 5);
        }
        x.sell(0, 2);
        x.image(1);
        Due.feed(x, "lpppppp" + "x".repeat(123));
        return x;
    }

    private static void sheets(GlebeVowels x) {
        int[] items = {0, 1, 2, 3, 4, 0};
        x.sheet(0, 2, items.length);
        for (int i = 0; i < items.length; i++) {
            x.item(0, 2, i, items[i]);
        }
        x.sheet(1, 0, 24);
        x.item(1, 0, 23, 4);
        x.item(1, 0, 1, -3);
        x.item(1, 0, 4, 1);
        x.item(1, 0, 6, 1);
        x.item(1, 0, 7, 2);
        x.sheet(2, 3, 0);
    }

    private static long[] ask(int probe, GlebeVowels x) {
        long[] answers = new long[600];
        switch (probe) {
            case TOLD:
                answers[0] = x.count(7);
                told(x, answers);
                break;
            case SHEETS:
                tellSheets(x, answers);
                break;
            case ACTS:
                tellActs(x, answers);
                break;
            case IMAGE_0:
            case IMAGE_1:
                answers[0] = x.restore(probe - IMAGE_0);
                if (answers[0] >= 0) {
                    told(x, answers);
                }
                break;
            default:
                answers[0] = x.count(7);
                answers[599] = x.land();
                if (answers[599] >= 0) {
                    told(x, answers);
                }
                break;
        }
        return answers;
    }

    /** What is told of the LAND, from answer 1 on. */
    private static void told(GlebeVowels x, long[] answers) {
        int at = 1;
        for (int what = 0; what <= 9; what++) {
            answers[at++] = what == 7 ? 0 : x.count(what);
        }
        for (int one = 0; one < 4; one++) {
            for (int what = 0; what <= 5; what++) {
                answers[at++] = x.holder(one, what);
            }
        }
        for (int cell = 0; cell < 24; cell++) {
            answers[at++] = x.cell(cell, 0);
            answers[at++] = x.cell(cell, 1);
        }
        for (int word = 0; word < 3; word++) {
            for (int what = 0; what <= 2; what++) {
                answers[at++] = x.word(word, what);
            }
        }
        answers[at] = x.first(0, 0) * 1000L + x.round(0);
    }

    /** Of each sheet: its lane, how many items it has, and each item that is a vowel. */
    private static void tellSheets(GlebeVowels x, long[] answers) {
        int at = 0;
        for (int sheet = 0; sheet < 4; sheet++) {
            for (int lane = 0; lane < 4; lane++) {
                answers[at++] = x.changes(sheet, lane, 0, 1, NONE);
            }
            int size = 0;
            while (size < 25 && x.copy(sheet, size, sheet, size, 0) == 0) {
                size++;
            }
            answers[at++] = size;
        }
        for (int i = 0; i < 5; i++) {
            for (int v = 0; v < 5; v++) {
                answers[at++] = x.changes(0, 2, i, 1, v);
            }
        }
        for (int i = 0; i < 23; i++) {
            answers[at++] = x.changes(1, 0, i, 1, 0);
        }
    }

    private static void tellActs(GlebeVowels x, long[] answers) {
        int at = 0;
        for (int k = 0; k < 26; k++) {
            answers[at++] = x.undo();
            answers[at++] = x.count(3);
            answers[at++] = x.cell(0, 0);
            answers[at++] = x.cell(10, 0);
            answers[at++] = x.cell(k % 2 == 0 ? 2 : 0, 1);
            answers[at++] = x.cell(8, 1);
        }
    }
}
