/**
 * Vowels go with the land: a land of cells with sounds, held by holders who say
 * what their cells let them say. README.md tells how to use it.
 *
 * <p>Sets of cells are held as bits of a long, a bit for each cell's number. A row
 * has eight numbers and at most six cells, so that a shift by 1 or 8 goes to the
 * cell beside and never over the edge into another row's cell.
 */
public final class GlebeVowels {
    public static final int BAD = -1, NOT = -2, FULL = -3, NONE = -4, NULL = -11, CAST = -12, INDEX = -13, SIZE = -14;

    private static final int VOWELS = 5;
    private static final int SOUNDS = 6;
    private static final int ALL_VOWELS = 31;
    private static final String SOUND_LETTERS = "aeiou-";

    private static final int PLAIN = 1;
    private static final int BROAD = 2;
    private static final int NASAL = 3;
    private static final int POOR = 4;
    private static final int HEIRESS = 5;
    private static final int KINDS = 6;
    private static final String KIND_LETTERS = "pbnrh";
    private static final int[] KIND_ABOVE = {-1, 0, 1, 1, 0, 4};

    private static final int MOST_BYTES = 130;
    private static final int MOST_HOLDERS = 6;
    private static final int MOST_ROWS = 6;
    private static final int MOST_COLUMNS = 6;
    private static final int MOST_CELLS = 36;
    private static final int MOST_WORDS = 4;
    private static final int MOST_LETTERS = 6;
    private static final int MOST_ACTS = 24;
    private static final int LAST_YEAR = 9999;
    private static final int COMMON = 12;

    private static final int ROW = 8;
    private static final int CELL_NUMBERS = 64;
    private static final int NOBODY = 6;
    private static final long NO_SET = -1L;
    // More than any price of some cells, and than any number of sets.
    private static final int FAR_ABOVE = 1000000;

    private static final int FARTHEST = 60;
    private static final int MOST_BOUGHT = 3;
    private static final int MOST_HELD = 3;
    private static final int MOST_TURNS = 2;
    private static final int MOST_SALES = 2;
    private static final int TAKEABLE = 6;
    private static final int MOST_MESSAGES = 1000000;
    private static final int MOST_DRAWN = 40;
    private static final int GREATEST_SEED = 999999;
    private static final long SEED_FACTOR = 16807L;
    private static final long SEED_DIVISOR = 2147483647L;

    private static final int IMAGES = 2;
    private static final int SHEETS = 4;
    private static final int LANES = 4;
    private static final int MOST_ITEMS = 24;
    private static final int MOST_FILMED = 24;
    private static final int MOST_PAIRS = 12;

    private final Tape tape = new Tape();
    private final Land now = new Land();
    private final Past past = new Past();
    private final Land[] images = new Land[IMAGES];
    private final Sheet[] sheets = new Sheet[SHEETS];
    // What is foretold is tried on these, so that the LAND itself never changes.
    private final Land trial = new Land();
    private final Land earlier = new Land();
    private final CellSets sets = new CellSets();
    private final Survey survey = new Survey();
    private final Marriages marriages = new Marriages();
    private final ChangeFinder finder = new ChangeFinder();

    public GlebeVowels() {
    }

    // ---- 1 what is told

    public int feed(int letter) {
        if (!within(letter, 0, 255)) {
            return BAD;
        }
        return tape.append(letter) ? tape.size() : FULL;
    }

    public int land() {
        boolean read = tape.readInto(trial);
        int fault = tape.fault();
        tape.clear();
        if (!read) {
            return -100 - fault;
        }
        now.become(trial);
        past.forget();
        return now.holders;
    }

    public int holder(int one, int what) {
        if (!now.hasHolder(one)) {
            return BAD;
        }
        switch (what) {
            case 0:
                return now.kinds[one];
            case 1:
                return Long.bitCount(now.held[one]);
            case 2:
                return priceOf(now.held[one]);
            case 3:
                return now.speechOf(one);
            case 4:
                return Integer.bitCount(now.speechOf(one));
            case 5:
                return now.wordsOf(one);
            default:
                return BAD;
        }
    }

    public int cell(int cell, int what) {
        if (!now.hasCell(cell)) {
            return BAD;
        }
        switch (what) {
            case 0:
                return now.soundAt(cell);
            case 1:
                return now.holderAt(cell);
            case 2:
                return priceOf(1L << cell);
            default:
                return BAD;
        }
    }

    public int word(int word, int what) {
        if (!now.hasWord(word)) {
            return BAD;
        }
        switch (what) {
            case 0:
                return now.lengths[word];
            case 1:
                return now.needs[word];
            case 2:
                return now.speakersOf(word);
            default:
                return BAD;
        }
    }

    public int as(int one, int kind) {
        if (!now.hasHolder(one) || !within(kind, 0, KINDS - 1)) {
            return BAD;
        }
        return isOfKind(now.kinds[one], kind) ? one : CAST;
    }

    // ---- 2 acts

    public int sell(int cell, int one) {
        if (!now.hasCell(cell) || !(one == NONE || now.hasHolder(one))) {
            return BAD;
        }
        int before = now.holderAt(cell);
        if (before == one) {
            return NOT;
        }
        past.keep(now);
        now.hand(1L << cell, one == NONE ? NOBODY : one);
        return before;
    }

    public int plough(int cell, int sound) {
        if (!now.hasCell(cell) || !within(sound, 0, SOUNDS - 1)) {
            return BAD;
        }
        int before = now.soundAt(cell);
        if (before == sound) {
            return NOT;
        }
        past.keep(now);
        now.tune(1L << cell, sound);
        return before;
    }

    public int year() {
        if (!now.stands()) {
            return NOT;
        }
        if (now.year >= LAST_YEAR) {
            return FULL;
        }
        past.keep(now);
        return now.passYear();
    }

    public int undo() {
        return past.bringBack(now) ? past.size() : NONE;
    }

    public int image(int k) {
        if (!within(k, 0, IMAGES - 1)) {
            return BAD;
        }
        if (!now.stands()) {
            return NOT;
        }
        Land kept = images[k];
        if (kept == null) {
            kept = new Land();
            images[k] = kept;
        }
        kept.become(now);
        return now.year;
    }

    public int restore(int k) {
        if (!within(k, 0, IMAGES - 1)) {
            return BAD;
        }
        Land kept = images[k];
        if (kept == null) {
            return NOT;
        }
        now.become(kept);
        past.forget();
        return now.year;
    }

    // ---- 3 foretold

    public int behind(int one, int n) {
        if (!now.hasHolder(one) || !within(n, 0, FARTHEST)) {
            return BAD;
        }
        trial.become(now);
        for (int y = 0; y < n; y++) {
            trial.passYear();
        }
        return trial.speechOf(one);
    }

    public int first(int one, int word) {
        if (!now.hasHolder(one) || !now.hasWord(word)) {
            return BAD;
        }
        trial.become(now);
        for (int y = 0; y <= FARTHEST; y++) {
            if (covers(trial.speechOf(one), trial.needs[word])) {
                return y;
            }
            trial.passYear();
        }
        return NONE;
    }

    public int round(int what) {
        if (!within(what, 0, 1)) {
            return BAD;
        }
        if (!now.stands()) {
            return NOT;
        }
        trial.become(now);
        // Five vowels come round within a few years; the bound is far above that.
        for (int n = 1; n <= FARTHEST; n++) {
            trial.passYear();
            int since = yearThatSoundsSo(n);
            if (since >= 0) {
                return what == 0 ? n : n - since;
            }
        }
        return NONE;
    }

    public int buys(int one, int word, int k) {
        if (!now.hasHolder(one) || !now.hasWord(word) || k < -1) {
            return BAD;
        }
        long bought = cheapestFor(one, now.needs[word]);
        if (bought == NO_SET) {
            return NONE;
        }
        return k == -1 ? priceOf(bought) : cellInSet(bought, k);
    }

    public int scattered(int one, int what) {
        if (!now.hasHolder(one) || !within(what, 0, 1)) {
            return BAD;
        }
        long rest = now.held[one];
        int parts = 0;
        int greatest = 0;
        for (int left = MOST_CELLS; left > 0 && rest != 0; left--) {
            long part = partAround(rest & -rest, rest);
            parts++;
            greatest = Math.max(greatest, Long.bitCount(part));
            rest &= ~part;
        }
        return what == 0 ? parts : greatest;
    }

    public int talk(int one, int m) {
        if (!now.hasHolder(one) || !within(m, 1, VOWELS)) {
            return BAD;
        }
        return now.talkersWith(one, m);
    }

    public int marry(int one, int m) {
        if (!(one == NONE || now.hasHolder(one)) || !within(m, 1, VOWELS)) {
            return BAD;
        }
        if (!now.stands()) {
            return NOT;
        }
        marriages.arrange(now, m);
        return one == NONE ? marriages.pairs() : marriages.mateOf(one);
    }

    public int letters(int one, int other, int q) {
        if (!areTwo(one, other) || !within(q, 1, MOST_MESSAGES)) {
            return BAD;
        }
        int alike = Integer.bitCount(now.speechOf(one) & now.speechOf(other));
        if (q == 1) {
            return 0;
        }
        return alike < 2 ? NONE : lettersFor(q, alike);
    }

    public int holdings(int one, int n, int heard, int what) {
        if (!now.hasHolder(one) || !within(n, 1, MOST_HELD)) {
            return BAD;
        }
        if (!within(heard, 0, ALL_VOWELS) || !within(what, 0, 2)) {
            return BAD;
        }
        survey.ask(now, one, sets, n, heard);
        switch (what) {
            case 0:
                return survey.fitting();
            case 1:
                return survey.inAll();
            default:
                return survey.nextToAsk(now);
        }
    }

    public int take(int one, int other, int n) {
        if (!areTwo(one, other) || !within(n, 0, MOST_TURNS)) {
            return BAD;
        }
        long open = lowestOf(now.held[NOBODY], TAKEABLE);
        return outcome(now, one, other, 2 * n, now.held[one], now.held[other], open);
    }

    public int chance(int one, int word, int n, int what) {
        if (!now.hasHolder(one) || !now.hasWord(word)) {
            return BAD;
        }
        if (!within(n, 0, MOST_SALES) || !within(what, 0, 1)) {
            return BAD;
        }
        int above = luckySales(now, one, now.needs[word], n, 0L);
        int below = 1;
        for (int k = 0; k < n; k++) {
            below *= now.cells();
        }
        int shared = commonDivisor(above, below);
        if (shared <= 0) {
            return what == 0 ? above : below;
        }
        return what == 0 ? above / shared : below / shared;
    }

    public int drawn(int n, int seed, int what) {
        if (!within(n, 0, MOST_DRAWN) || !within(seed, 1, GREATEST_SEED) || !within(what, 0, 1)) {
            return BAD;
        }
        if (!now.stands()) {
            return NOT;
        }
        trial.become(now);
        long x = seed;
        for (int y = 0; y < n; y++) {
            x = x * SEED_FACTOR % SEED_DIVISOR;
            trial.sellDrawn(x);
            trial.passYear();
        }
        return what == 0 ? trial.bestSpeaker() : Long.bitCount(trial.held[NOBODY]);
    }

    // ---- 4 sheets

    public int sheet(int sheet, int lane, int n) {
        if (!within(sheet, 0, SHEETS - 1) || !within(lane, 0, LANES - 1) || n > MOST_ITEMS) {
            return BAD;
        }
        if (n < 0) {
            return SIZE;
        }
        sheets[sheet] = new Sheet(lane, n);
        return n;
    }

    public int drop(int sheet) {
        if (!within(sheet, 0, SHEETS - 1)) {
            return BAD;
        }
        Sheet row = sheets[sheet];
        if (row == null) {
            return NULL;
        }
        sheets[sheet] = null;
        return row.items.length;
    }

    public long item(int sheet, int lane, int i, long v) {
        if (!within(sheet, 0, SHEETS - 1) || !within(lane, 0, LANES - 1)) {
            return BAD;
        }
        Sheet row = sheets[sheet];
        if (row == null) {
            return NULL;
        }
        if (row.lane != lane) {
            return CAST;
        }
        return row.reaches(i, 1) ? row.put(i, v) : INDEX;
    }

    public int copy(int from, int i, int to, int j, int n) {
        if (!within(from, 0, SHEETS - 1) || !within(to, 0, SHEETS - 1)) {
            return BAD;
        }
        Sheet source = sheets[from];
        Sheet target = sheets[to];
        if (source == null || target == null) {
            return NULL;
        }
        if (source.lane != target.lane) {
            return CAST;
        }
        if (!source.reaches(i, n) || !target.reaches(j, n)) {
            return INDEX;
        }
        System.arraycopy(source.items, i, target.items, j, n);
        return n;
    }

    public int film(int one, int n, int sheet, int lane, int i) {
        if (!now.hasHolder(one) || !within(n, 1, MOST_FILMED)) {
            return BAD;
        }
        if (!within(sheet, 0, SHEETS - 1) || !within(lane, 0, LANES - 1)) {
            return BAD;
        }
        Sheet row = sheets[sheet];
        if (row == null) {
            return NULL;
        }
        if (row.lane != lane) {
            return CAST;
        }
        if (!row.reaches(i, n)) {
            return INDEX;
        }
        trial.become(now);
        for (int y = 0; y < n; y++) {
            trial.passYear();
            row.put(i + y, trial.speechOf(one));
        }
        return n;
    }

    public int changes(int sheet, int lane, int i, int n, int vowel) {
        if (!within(sheet, 0, SHEETS - 1) || !within(lane, 0, LANES - 1)) {
            return BAD;
        }
        if (!within(n, 1, MOST_PAIRS) || !(vowel == NONE || within(vowel, 0, VOWELS - 1))) {
            return BAD;
        }
        Sheet row = sheets[sheet];
        if (row == null) {
            return NULL;
        }
        if (row.lane != lane) {
            return CAST;
        }
        if (!row.reaches(i, 2 * n)) {
            return INDEX;
        }
        if (!row.hasVowelsAlone(i, 2 * n)) {
            return NOT;
        }
        finder.compare(row, i, n);
        return vowel == NONE ? finder.howMany() : finder.becomes(vowel);
    }

    public int count(int what) {
        switch (what) {
            case 0:
                return now.holders;
            case 1:
                return now.columns;
            case 2:
                return now.rows;
            case 3:
                return now.year;
            case 4:
                return now.words;
            case 5:
                return Long.bitCount(now.held[NOBODY]);
            case 6:
                return past.size();
            case 7:
                return tape.size();
            case 8:
                return now.vowelsIn(now.everyCell());
            case 9:
                return now.speechOfAll();
            default:
                return BAD;
        }
    }

    // ---- helpers of the calls

    /** Two HOLDERS that are there and are not the same. */
    private boolean areTwo(int one, int other) {
        return now.hasHolder(one) && now.hasHolder(other) && one != other;
    }

    /** The year from now, before year n, that sounds as the trial does; -1: none. */
    private int yearThatSoundsSo(int n) {
        earlier.become(now);
        for (int y = 0; y < n; y++) {
            if (earlier.soundsLike(trial)) {
                return y;
            }
            earlier.passYear();
        }
        return -1;
    }

    /** BUYS: few cells come ahead of many, so that only a lesser price beats what was found. */
    private long cheapestFor(int one, int need) {
        long best = NO_SET;
        int least = FAR_ABOVE;
        long forSale = now.everyCell() & ~now.held[one];
        for (int n = 0; n <= MOST_BOUGHT; n++) {
            for (int left = sets.begin(forSale, n); left > 0; left--) {
                long set = sets.current();
                int price = priceOf(set);
                if (price < least && covers(now.speechWith(one, set), need)) {
                    best = set;
                    least = price;
                }
                sets.advance();
            }
        }
        return best;
    }

    /** TAKE from here on; an even number of turns is left where it is the first one's. */
    private static int outcome(Land land, int one, int other, int turns, long ones, long others, long open) {
        if (turns <= 0 || turns > 2 * MOST_TURNS) {
            return land.lead(one, ones, other, others);
        }
        boolean firsts = turns % 2 == 0;
        int best = outcome(land, one, other, turns - 1, ones, others, open);
        long rest = open;
        for (int left = Long.bitCount(open); left > 0; left--) {
            long cell = rest & -rest;
            rest &= ~cell;
            int then = firsts
                ? outcome(land, one, other, turns - 1, ones | cell, others, open & ~cell)
                : outcome(land, one, other, turns - 1, ones, others | cell, open & ~cell);
            best = firsts ? Math.max(best, then) : Math.min(best, then);
        }
        return best;
    }

    /** CHANCE: in how many of all rows of n sales, behind those of the set, one CAN say it. */
    private static int luckySales(Land land, int one, int need, int n, long sold) {
        if (n <= 0 || n > MOST_SALES) {
            return covers(land.speechWith(one, sold), need) ? 1 : 0;
        }
        int lucky = 0;
        long rest = land.everyCell();
        for (int left = Long.bitCount(rest); left > 0; left--) {
            long cell = rest & -rest;
            rest &= ~cell;
            lucky += luckySales(land, one, need, n - 1, sold | cell);
        }
        return lucky;
    }

    /** The fewest letters, of some unlike ones, for so many unlike messages. */
    private static int lettersFor(int messages, int unlike) {
        long rows = 1;
        int letters = 0;
        for (int left = CELL_NUMBERS; left > 0 && rows < messages; left--) {
            rows *= unlike;
            letters++;
        }
        return letters;
    }

    private static boolean within(int number, int least, int greatest) {
        return number >= least && number <= greatest;
    }

    private static boolean covers(int said, int need) {
        return (need & ~said) == 0;
    }

    private static boolean isOfKind(int kind, int wanted) {
        int above = kind;
        for (int left = KINDS; left > 0 && above >= 0 && above < KIND_ABOVE.length; left--) {
            if (above == wanted) {
                return true;
            }
            above = KIND_ABOVE[above];
        }
        return false;
    }

    private static int commonDivisor(int a, int b) {
        int great = a;
        int little = b;
        for (int left = CELL_NUMBERS; left > 0 && little != 0; left--) {
            int rest = great % little;
            great = little;
            little = rest;
        }
        return great;
    }

    // ---- helpers of sets of cells

    /** The least number of a set with at least one cell. */
    private static int leastCell(long set) {
        return Long.bitCount((set & -set) - 1);
    }

    private static int priceOf(long set) {
        int price = 0;
        long rest = set;
        for (int left = Long.bitCount(set); left > 0; left--) {
            int cell = leastCell(rest);
            price += cell / ROW + cell % ROW + 1;
            rest &= rest - 1;
        }
        return price;
    }

    /** The k-th cell of a set by numbers; NONE: there are fewer. */
    private static int cellInSet(long set, int k) {
        if (k < 0 || k >= Long.bitCount(set)) {
            return NONE;
        }
        long rest = set;
        for (int left = k; left > 0; left--) {
            rest &= rest - 1;
        }
        return leastCell(rest);
    }

    /** The first cells of a set, at most so many. */
    private static long lowestOf(long set, int most) {
        long above = set;
        for (int left = most; left > 0; left--) {
            above &= above - 1;
        }
        return set & ~above;
    }

    private static long beside(long set) {
        return (set << 1 | set >>> 1 | set << ROW | set >>> ROW) & ~set;
    }

    /** The part of a set in which a cell of it lies. */
    private static long partAround(long cell, long set) {
        long part = cell;
        for (int left = MOST_CELLS; left > 0; left--) {
            part |= beside(part) & set;
        }
        return part;
    }

    private static boolean hasBit(int set, int bit) {
        return (set >>> bit & 1) != 0;
    }

    /** THE TAPE and how it is read: the place stops at the first byte that cannot stand there. */
    private static final class Tape {
        private static final int END = -1;

        private final int[] bytes = new int[MOST_BYTES];
        private int length;
        private int place;

        int size() {
            return length;
        }

        int fault() {
            return place;
        }

        void clear() {
            length = 0;
        }

        /** False: THE TAPE is full. */
        boolean append(int letter) {
            if (length < 0 || length >= bytes.length) {
                return false;
            }
            bytes[length] = letter;
            length++;
            return true;
        }

        /** False: there is a fault, and what the draft holds is worth nothing. */
        boolean readInto(Land draft) {
            place = 0;
            draft.clear();
            return passes('l') && readHolders(draft)
                && passes(';') && readCells(draft)
                && passes(';') && readWhose(draft)
                && passes(';') && readWords(draft)
                && passes(';') && readChange(draft)
                && place == length;
        }

        private int sign() {
            return place >= 0 && place < length && place < bytes.length ? bytes[place] : END;
        }

        private boolean passes(char wanted) {
            if (sign() != wanted) {
                return false;
            }
            place++;
            return true;
        }

        private int signAmong(String letters) {
            int sign = sign();
            return sign < 0 ? -1 : letters.indexOf((char) sign);
        }

        private boolean readHolders(Land draft) {
            int n = 0;
            while (n < MOST_HOLDERS) {
                int kind = signAmong(KIND_LETTERS);
                if (kind < 0) {
                    break;
                }
                draft.kinds[n] = PLAIN + kind;
                n++;
                place++;
            }
            draft.holders = n;
            return n > 0;
        }

        private boolean readCells(Land draft) {
            int row = 0;
            do {
                if (!readRow(draft, row)) {
                    return false;
                }
                row++;
            } while (row < MOST_ROWS && passes('/'));
            draft.rows = row;
            return true;
        }

        /** The first row tells how many columns there are, the others have as many. */
        private boolean readRow(Land draft, int row) {
            int most = row == 0 ? MOST_COLUMNS : draft.columns;
            int n = 0;
            while (n < most) {
                int sound = signAmong(SOUND_LETTERS);
                if (sound < 0 || sound >= SOUNDS) {
                    break;
                }
                draft.sound[sound] |= 1L << (ROW * row + n);
                n++;
                place++;
            }
            if (row == 0) {
                draft.columns = n;
            }
            return n > 0 && n == draft.columns;
        }

        private boolean readWhose(Land draft) {
            for (int row = 0; row < draft.rows; row++) {
                if (row > 0 && !passes('/')) {
                    return false;
                }
                for (int column = 0; column < draft.columns; column++) {
                    int who = figure(draft.holders);
                    if (who < 0 || who >= draft.held.length) {
                        return false;
                    }
                    draft.held[who] |= 1L << (ROW * row + column);
                    place++;
                }
            }
            return true;
        }

        /** The HOLDER that a figure tells, or NOBODY; -1: it tells none. */
        private int figure(int holders) {
            int sign = sign();
            if (sign == '.') {
                return NOBODY;
            }
            return sign >= '0' && sign < '0' + holders ? sign - '0' : -1;
        }

        private boolean readWords(Land draft) {
            int word = 0;
            do {
                if (!readWord(draft, word)) {
                    return false;
                }
                word++;
            } while (word < MOST_WORDS && passes(','));
            draft.words = word;
            return true;
        }

        private boolean readWord(Land draft, int word) {
            if (word < 0 || word >= MOST_WORDS) {
                return false;
            }
            int n = 0;
            int vowels = 0;
            while (n < MOST_LETTERS && sign() >= 'a' && sign() <= 'z') {
                int vowel = signAmong(SOUND_LETTERS);
                if (vowel >= 0) {
                    vowels |= 1 << vowel;
                }
                n++;
                place++;
            }
            draft.lengths[word] = n;
            draft.needs[word] = vowels;
            return n > 0;
        }

        private boolean readChange(Land draft) {
            for (int v = 0; v < VOWELS; v++) {
                int vowel = signAmong(SOUND_LETTERS);
                if (vowel < 0 || vowel >= VOWELS) {
                    return false;
                }
                draft.change[v] = vowel;
                place++;
            }
            return true;
        }
    }

    /** A LAND, with its YEAR; without HOLDERS it is none. */
    private static final class Land {
        private int holders;
        private final int[] kinds = new int[MOST_HOLDERS];
        private int rows;
        private int columns;
        private int words;
        private final int[] lengths = new int[MOST_WORDS];
        private final int[] needs = new int[MOST_WORDS];
        private final int[] change = new int[VOWELS];
        private int year;
        private final long[] sound = new long[SOUNDS];
        private final long[] held = new long[NOBODY + 1];
        private final long[] next = new long[SOUNDS];

        boolean stands() {
            return holders > 0;
        }

        boolean hasHolder(int one) {
            return one >= 0 && one < holders && one < MOST_HOLDERS;
        }

        boolean hasWord(int word) {
            return word >= 0 && word < words && word < MOST_WORDS;
        }

        boolean hasCell(int cell) {
            return cell >= 0 && cell < CELL_NUMBERS && (everyCell() >>> cell & 1) != 0;
        }

        int cells() {
            return rows * columns;
        }

        void clear() {
            holders = 0;
            rows = 0;
            columns = 0;
            words = 0;
            year = 0;
            for (int s = 0; s < SOUNDS; s++) {
                sound[s] = 0;
            }
            for (int h = 0; h <= NOBODY; h++) {
                held[h] = 0;
            }
        }

        void become(Land other) {
            holders = other.holders;
            rows = other.rows;
            columns = other.columns;
            words = other.words;
            year = other.year;
            System.arraycopy(other.kinds, 0, kinds, 0, MOST_HOLDERS);
            System.arraycopy(other.lengths, 0, lengths, 0, MOST_WORDS);
            System.arraycopy(other.needs, 0, needs, 0, MOST_WORDS);
            System.arraycopy(other.change, 0, change, 0, VOWELS);
            System.arraycopy(other.sound, 0, sound, 0, SOUNDS);
            System.arraycopy(other.held, 0, held, 0, NOBODY + 1);
        }

        long everyCell() {
            long every = 0;
            for (int s = 0; s < SOUNDS; s++) {
                every |= sound[s];
            }
            return every;
        }

        int soundAt(int cell) {
            for (int s = 0; s < VOWELS; s++) {
                if ((sound[s] >>> cell & 1) != 0) {
                    return s;
                }
            }
            return VOWELS;
        }

        int holderAt(int cell) {
            for (int one = 0; one < MOST_HOLDERS; one++) {
                if ((held[one] >>> cell & 1) != 0) {
                    return one;
                }
            }
            return NONE;
        }

        void hand(long cell, int who) {
            for (int h = 0; h <= NOBODY; h++) {
                held[h] = h == who ? held[h] | cell : held[h] & ~cell;
            }
        }

        void tune(long cell, int to) {
            for (int s = 0; s < SOUNDS; s++) {
                sound[s] = s == to ? sound[s] | cell : sound[s] & ~cell;
            }
        }

        /** A YEAR: how many cells sound otherwise. */
        int passYear() {
            for (int v = 0; v < VOWELS; v++) {
                next[v] = 0;
            }
            int otherwise = 0;
            for (int v = 0; v < VOWELS; v++) {
                int to = change[v];
                if (to >= 0 && to < VOWELS) {
                    next[to] |= sound[v];
                    otherwise += to == v ? 0 : Long.bitCount(sound[v]);
                }
            }
            System.arraycopy(next, 0, sound, 0, VOWELS);
            year++;
            return otherwise;
        }

        boolean soundsLike(Land other) {
            for (int s = 0; s < SOUNDS; s++) {
                if (sound[s] != other.sound[s]) {
                    return false;
                }
            }
            return true;
        }

        /** DRAWN: the sale that an X tells. */
        void sellDrawn(long x) {
            int cells = cells();
            if (holders <= 0 || columns <= 0 || cells <= 0) {
                return;
            }
            int place = (int) (x % cells);
            int who = (int) (x / 8 % holders);
            hand(1L << (ROW * (place / columns) + place % columns), who);
        }

        int vowelsIn(long set) {
            int vowels = 0;
            for (int v = 0; v < VOWELS; v++) {
                if ((sound[v] & set) != 0) {
                    vowels |= 1 << v;
                }
            }
            return vowels;
        }

        private int vowelsOnceIn(long set) {
            int vowels = 0;
            for (int v = 0; v < VOWELS; v++) {
                if (Long.bitCount(sound[v] & set) == 1) {
                    vowels |= 1 << v;
                }
            }
            return vowels;
        }

        private int commonVowels() {
            int vowels = 0;
            for (int v = 0; v < VOWELS; v++) {
                if (Long.bitCount(sound[v]) >= COMMON) {
                    vowels |= 1 << v;
                }
            }
            return vowels;
        }

        /** What one of a kind SAYS who holds these cells, where those are nobody's. */
        private int speech(int kind, long his, long nobodys) {
            int common = commonVowels();
            int plain = common | vowelsIn(his);
            switch (kind) {
                case PLAIN:
                    return plain;
                case BROAD:
                    return (plain | plain << 1) & ALL_VOWELS;
                case NASAL:
                    return plain & ~vowelsOnceIn(his);
                case POOR:
                    return common | vowelsIn(nobodys);
                case HEIRESS:
                    return common | vowelsIn(nobodys | beside(his));
                default:
                    return common;
            }
        }

        int speechOf(int one) {
            return speechWith(one, 0L);
        }

        /** What one SAYS when some cells more are SOLD to him. */
        int speechWith(int one, long sold) {
            return hasHolder(one) ? speech(kinds[one], held[one] | sold, held[NOBODY] & ~sold) : 0;
        }

        /** What one SAYS when these cells alone are his, and his other ones nobody's. */
        int speechBy(int one, long set) {
            return hasHolder(one) ? speech(kinds[one], set, (held[NOBODY] | held[one]) & ~set) : 0;
        }

        /** How many VOWELS more one SAYS than the other, when they hold these cells. */
        int lead(int one, long ones, int other, long others) {
            if (!hasHolder(one) || !hasHolder(other)) {
                return 0;
            }
            long nobodys = held[NOBODY] & ~(ones | others);
            return Integer.bitCount(speech(kinds[one], ones, nobodys))
                - Integer.bitCount(speech(kinds[other], others, nobodys));
        }

        int speechOfAll() {
            int said = 0;
            for (int one = 0; one < holders; one++) {
                said |= speechOf(one);
            }
            return said;
        }

        int bestSpeaker() {
            int best = 0;
            for (int one = 1; one < holders; one++) {
                if (Integer.bitCount(speechOf(one)) > Integer.bitCount(speechOf(best))) {
                    best = one;
                }
            }
            return best;
        }

        int wordsOf(int one) {
            int said = speechOf(one);
            int can = 0;
            for (int w = 0; w < MOST_WORDS; w++) {
                if (hasWord(w) && covers(said, needs[w])) {
                    can |= 1 << w;
                }
            }
            return can;
        }

        int speakersOf(int word) {
            int can = 0;
            for (int one = 0; one < holders; one++) {
                if (hasWord(word) && covers(speechOf(one), needs[word])) {
                    can |= 1 << one;
                }
            }
            return can;
        }

        int talkersWith(int one, int m) {
            int said = speechOf(one);
            int can = 0;
            for (int other = 0; other < holders; other++) {
                if (other != one && Integer.bitCount(said & speechOf(other)) >= m) {
                    can |= 1 << other;
                }
            }
            return can;
        }
    }

    /** The LAND ahead of each of the latest ACTS, in a ring. */
    private static final class Past {
        private final Land[] lands = new Land[MOST_ACTS];
        private int at;
        private int size;

        int size() {
            return size;
        }

        void forget() {
            size = 0;
        }

        void keep(Land land) {
            if (at < 0 || at >= MOST_ACTS) {
                return;
            }
            Land slot = lands[at];
            if (slot == null) {
                slot = new Land();
                lands[at] = slot;
            }
            slot.become(land);
            at = (at + 1) % MOST_ACTS;
            size = Math.min(size + 1, MOST_ACTS);
        }

        /** False: nothing can be undone. */
        boolean bringBack(Land land) {
            int before = (at + MOST_ACTS - 1) % MOST_ACTS;
            if (size <= 0 || before < 0) {
                return false;
            }
            Land slot = lands[before];
            if (slot == null) {
                return false;
            }
            land.become(slot);
            at = before;
            size--;
            return true;
        }
    }

    /** All sets of n cells out of some, the first by numbers first. */
    private static final class CellSets {
        private final long[] cells = new long[MOST_CELLS];
        private int size;
        private final int[] picked = new int[Math.max(MOST_BOUGHT, MOST_HELD)];
        private int n;

        /** The first set is at hand then: how many sets there are. */
        int begin(long from, int of) {
            size = 0;
            long rest = from;
            while (size < cells.length && rest != 0) {
                cells[size] = rest & -rest;
                rest &= rest - 1;
                size++;
            }
            n = Math.max(0, Math.min(of, picked.length));
            int ways = 1;
            for (int k = 0; k < n; k++) {
                picked[k] = k;
                ways = ways * Math.max(0, size - k) / (k + 1);
            }
            return ways;
        }

        long current() {
            long set = 0;
            for (int k = 0; k < n; k++) {
                if (picked[k] >= 0 && picked[k] < size) {
                    set |= cells[picked[k]];
                }
            }
            return set;
        }

        void advance() {
            int k = n - 1;
            while (k >= 0 && picked[k] >= size - n + k) {
                k--;
            }
            if (k < 0) {
                return;
            }
            picked[k]++;
            for (int later = k + 1; later < n; later++) {
                picked[later] = picked[later - 1] + 1;
            }
        }
    }

    /** HOLDINGS of one: the sets that fit what is HEARD, and how often a cell is in one. */
    private static final class Survey {
        private final int[] often = new int[CELL_NUMBERS];
        private int inAll;
        private int fitting;

        int inAll() {
            return inAll;
        }

        int fitting() {
            return fitting;
        }

        void ask(Land land, int one, CellSets sets, int n, int heard) {
            fitting = 0;
            for (int cell = 0; cell < CELL_NUMBERS; cell++) {
                often[cell] = 0;
            }
            inAll = sets.begin(land.everyCell(), n);
            for (int left = inAll; left > 0; left--) {
                long set = sets.current();
                if (land.speechBy(one, set) == heard) {
                    fitting++;
                    mark(set);
                }
                sets.advance();
            }
        }

        private void mark(long set) {
            long rest = set;
            for (int left = Long.bitCount(set); left > 0; left--) {
                int cell = leastCell(rest);
                if (cell < CELL_NUMBERS) {
                    often[cell]++;
                }
                rest &= rest - 1;
            }
        }

        int nextToAsk(Land land) {
            if (fitting == 0) {
                return NONE;
            }
            int best = NONE;
            int nearest = FAR_ABOVE;
            for (int cell = 0; cell < CELL_NUMBERS; cell++) {
                int off = Math.abs(2 * often[cell] - fitting);
                if (land.hasCell(cell) && off < nearest) {
                    best = cell;
                    nearest = off;
                }
            }
            return best;
        }
    }

    /** MARRY: the most pairs of each set of HOLDERS, then the first way to have so many. */
    private static final class Marriages {
        private static final int GROUPS = 64;

        private final int[] most = new int[GROUPS];
        private final int[] talkers = new int[MOST_HOLDERS];
        private final int[] mates = new int[MOST_HOLDERS];
        private int pairs;

        int pairs() {
            return pairs;
        }

        int mateOf(int one) {
            return one >= 0 && one < MOST_HOLDERS ? mates[one] : NONE;
        }

        void arrange(Land land, int m) {
            for (int one = 0; one < MOST_HOLDERS; one++) {
                talkers[one] = land.hasHolder(one) ? land.talkersWith(one, m) : 0;
                mates[one] = NONE;
            }
            most[0] = 0;
            for (int group = 1; group < GROUPS; group++) {
                most[group] = mostOf(group);
            }
            pairs = most[GROUPS - 1];
            pairOff();
        }

        private int mostOf(int group) {
            int one = leastCell(group);
            int rest = group & group - 1;
            int best = mostIn(rest);
            for (int mate = one + 1; mate < MOST_HOLDERS; mate++) {
                if (mayPair(one, mate, rest)) {
                    best = Math.max(best, 1 + mostIn(rest & ~(1 << mate)));
                }
            }
            return best;
        }

        private int mostIn(int group) {
            return group >= 0 && group < GROUPS ? most[group] : 0;
        }

        private boolean mayPair(int one, int mate, int group) {
            return one < MOST_HOLDERS && hasBit(group, mate) && hasBit(talkers[one], mate);
        }

        private void pairOff() {
            int single = GROUPS - 1;
            for (int one = 0; one < MOST_HOLDERS; one++) {
                if (!hasBit(single, one)) {
                    continue;
                }
                int wanted = mostIn(single);
                single &= ~(1 << one);
                for (int mate = one + 1; mate < MOST_HOLDERS; mate++) {
                    int then = single & ~(1 << mate);
                    if (mayPair(one, mate, single) && 1 + mostIn(then) == wanted) {
                        mates[one] = mate;
                        mates[mate] = one;
                        single = then;
                        break;
                    }
                }
            }
        }
    }

    /** A row of a LANE; each item is what its lowest bits tell, read with their sign. */
    private static final class Sheet {
        private final int lane;
        private final long[] items;

        Sheet(int lane, int n) {
            this.lane = lane;
            this.items = new long[Math.max(0, Math.min(n, MOST_ITEMS))];
        }

        /** The row has n items from i on. */
        boolean reaches(int i, int n) {
            return n >= 0 && i >= 0 && i <= items.length - n;
        }

        long put(int i, long v) {
            if (i < 0 || i >= items.length) {
                return INDEX;
            }
            int unused = 64 - (8 << lane);
            items[i] = v << unused >> unused;
            return items[i];
        }

        /** The item; -1: there is none such, or it is no VOWEL. */
        int vowelAt(int i) {
            if (i < 0 || i >= items.length || items[i] < 0 || items[i] >= VOWELS) {
                return -1;
            }
            return (int) items[i];
        }

        boolean hasVowelsAlone(int i, int n) {
            for (int k = 0; k < n; k++) {
                if (vowelAt(i + k) < 0) {
                    return false;
                }
            }
            return true;
        }
    }

    /** CHANGES: what each VOWEL must become, and whether that can be. */
    private static final class ChangeFinder {
        private static final int FREE = -1;

        private final int[] fixed = new int[VOWELS];
        private boolean possible;

        void compare(Sheet row, int i, int pairs) {
            possible = true;
            for (int v = 0; v < VOWELS; v++) {
                fixed[v] = FREE;
            }
            for (int k = 0; k < pairs; k++) {
                bind(row.vowelAt(i + 2 * k), row.vowelAt(i + 2 * k + 1));
            }
        }

        private void bind(int from, int to) {
            if (from < 0 || from >= VOWELS) {
                return;
            }
            if (fixed[from] != FREE && fixed[from] != to) {
                possible = false;
            }
            fixed[from] = to;
        }

        int howMany() {
            int ways = possible ? 1 : 0;
            for (int v = 0; v < VOWELS; v++) {
                ways *= fixed[v] == FREE ? VOWELS : 1;
            }
            return ways;
        }

        /** In the first change a free VOWEL becomes a. */
        int becomes(int vowel) {
            if (!possible || vowel < 0 || vowel >= VOWELS) {
                return NONE;
            }
            return Math.max(fixed[vowel], 0);
        }
    }
}
