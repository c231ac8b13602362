import java.util.ArrayDeque;
import java.util.ArrayList;
import java.util.Arrays;
import java.util.Deque;
import java.util.List;
import java.util.TreeSet;
import java.util.regex.Matcher;
import java.util.regex.Pattern;

/**
 * The document once more, as slow and as near to its words as can be: rows and columns instead of
 * bits, texts matched by patterns, all ways tried. It shares nothing with the class.
 */
final class PlainModel {
    static final int BAD = -1, NOT = -2, FULL = -3, NONE = -4, NULL = -11, CAST = -12, INDEX = -13, SIZE = -14;
    static final String VOWELS = "aeiou";

    static final class State {
        String kinds;
        char[][] sound;
        char[][] whose;
        String[] words;
        String change;
        int year;

        State twin() {
            State s = new State();
            s.kinds = kinds;
            s.sound = new char[sound.length][];
            s.whose = new char[sound.length][];
            for (int r = 0; r < sound.length; r++) {
                s.sound[r] = sound[r].clone();
                s.whose[r] = whose[r].clone();
            }
            s.words = words;
            s.change = change;
            s.year = year;
            return s;
        }

        boolean in(int r, int c) {
            return r >= 0 && c >= 0 && r < sound.length && c < sound[0].length;
        }

        List<Integer> cells() {
            List<Integer> all = new ArrayList<>();
            for (int r = 0; r < sound.length; r++) {
                for (int c = 0; c < sound[0].length; c++) {
                    all.add(8 * r + c);
                }
            }
            return all;
        }

        char whoHas(int cell) {
            return whose[cell / 8][cell % 8];
        }

        char sounds(int cell) {
            return sound[cell / 8][cell % 8];
        }

        void sell(int cell, char to) {
            whose[cell / 8][cell % 8] = to;
        }

        int turn() {
            int moved = 0;
            for (char[] row : sound) {
                for (int c = 0; c < row.length; c++) {
                    int v = VOWELS.indexOf(row[c]);
                    if (v >= 0) {
                        char to = change.charAt(v);
                        moved += to == row[c] ? 0 : 1;
                        row[c] = to;
                    }
                }
            }
            year++;
            return moved;
        }

        TreeSet<Character> says(int one) {
            char me = (char) ('0' + one);
            char kind = kinds.charAt(one);
            TreeSet<Character> said = new TreeSet<>();
            for (char v : VOWELS.toCharArray()) {
                int everywhere = 0;
                int mine = 0;
                int nobodys = 0;
                int besideMine = 0;
                for (int cell : cells()) {
                    if (sounds(cell) != v) {
                        continue;
                    }
                    everywhere++;
                    if (whoHas(cell) == me) {
                        mine++;
                    } else if (nextTo(cell, me)) {
                        besideMine++;
                    }
                    if (whoHas(cell) == '.') {
                        nobodys++;
                    }
                }
                boolean yes = everywhere >= 12;
                if (kind == 'p' || kind == 'b' || kind == 'n') {
                    yes = yes || mine >= 1;
                }
                if (kind == 'n' && mine == 1) {
                    yes = false;
                }
                if (kind == 'r' || kind == 'h') {
                    yes = yes || nobodys >= 1;
                }
                if (kind == 'h') {
                    yes = yes || besideMine >= 1;
                }
                if (yes) {
                    said.add(v);
                }
            }
            if (kind == 'b') {
                for (int v = 3; v >= 0; v--) {
                    if (said.contains(VOWELS.charAt(v))) {
                        said.add(VOWELS.charAt(v + 1));
                    }
                }
            }
            return said;
        }

        boolean nextTo(int cell, char me) {
            int r = cell / 8;
            int c = cell % 8;
            int[][] four = {{r, c - 1}, {r, c + 1}, {r - 1, c}, {r + 1, c}};
            for (int[] at : four) {
                if (in(at[0], at[1]) && whose[at[0]][at[1]] == me) {
                    return true;
                }
            }
            return false;
        }

        boolean can(int one, int word) {
            TreeSet<Character> said = says(one);
            for (char letter : words[word].toCharArray()) {
                if (VOWELS.indexOf(letter) >= 0 && !said.contains(letter)) {
                    return false;
                }
            }
            return true;
        }

        String soundText() {
            return Arrays.deepToString(sound);
        }
    }

    State now;
    final StringBuilder tape = new StringBuilder();
    final Deque<State> past = new ArrayDeque<>();
    final State[] images = new State[2];
    final Object[] sheets = new Object[4];

    static int bits(TreeSet<Character> vowels) {
        int bits = 0;
        for (char v : vowels) {
            bits += 1 << VOWELS.indexOf(v);
        }
        return bits;
    }

    boolean noHolder(int one) {
        return now == null || one < 0 || one >= now.kinds.length();
    }

    boolean noCell(int cell) {
        return now == null || !now.cells().contains(cell);
    }

    boolean noWord(int word) {
        return now == null || word < 0 || word >= now.words.length;
    }

    static int price(int cell) {
        return cell / 8 + cell % 8 + 1;
    }

    List<Integer> heldBy(char who) {
        List<Integer> list = new ArrayList<>();
        for (int cell : now.cells()) {
            if (now.whoHas(cell) == who) {
                list.add(cell);
            }
        }
        return list;
    }

    int feed(int letter) {
        if (letter < 0 || letter > 255) {
            return BAD;
        }
        if (tape.length() == 130) {
            return FULL;
        }
        tape.append((char) letter);
        return tape.length();
    }

    private static final Pattern[] FORMS = new Pattern[216];

    static {
        for (int k = 0; k < 216; k++) {
            int h = k / 36 + 1;
            int r = k / 6 % 6 + 1;
            int c = k % 6 + 1;
            String cells = "[aeiou-]{" + c + "}(/[aeiou-]{" + c + "}){" + (r - 1) + "}";
            String figures = "[.0-" + (char) ('0' + h - 1) + "]{" + c + "}";
            String whose = figures + "(/" + figures + "){" + (r - 1) + "}";
            String words = "[a-z]{1,6}(,[a-z]{1,6}){0,3}";
            FORMS[k] = Pattern.compile("l[pbnrh]{" + h + "};" + cells + ";" + whose + ";" + words + ";[aeiou]{5}");
        }
    }

    static boolean canGoOn(String text) {
        for (Pattern form : FORMS) {
            Matcher m = form.matcher(text);
            if (m.matches() || m.hitEnd()) {
                return true;
            }
        }
        return false;
    }

    static boolean isLand(String text) {
        for (Pattern form : FORMS) {
            if (form.matcher(text).matches()) {
                return true;
            }
        }
        return false;
    }

    int land() {
        String text = tape.toString();
        tape.setLength(0);
        if (!isLand(text)) {
            int place = 0;
            while (place < text.length() && canGoOn(text.substring(0, place + 1))) {
                place++;
            }
            return -100 - place;
        }
        String[] part = text.split(";");
        now = new State();
        now.kinds = part[0].substring(1);
        String[] rows = part[1].split("/");
        String[] owners = part[2].split("/");
        now.sound = new char[rows.length][];
        now.whose = new char[rows.length][];
        for (int r = 0; r < rows.length; r++) {
            now.sound[r] = rows[r].toCharArray();
            now.whose[r] = owners[r].toCharArray();
        }
        now.words = part[3].split(",");
        now.change = part[4];
        past.clear();
        return now.kinds.length();
    }

    int holder(int one, int what) {
        if (noHolder(one) || what < 0 || what > 5) {
            return BAD;
        }
        List<Integer> mine = heldBy((char) ('0' + one));
        switch (what) {
            case 0:
                return 1 + "pbnrh".indexOf(now.kinds.charAt(one));
            case 1:
                return mine.size();
            case 2:
                return mine.stream().mapToInt(PlainModel::price).sum();
            case 3:
                return bits(now.says(one));
            case 4:
                return now.says(one).size();
            default:
                int can = 0;
                for (int w = 0; w < now.words.length; w++) {
                    can += now.can(one, w) ? 1 << w : 0;
                }
                return can;
        }
    }

    int cell(int cell, int what) {
        if (noCell(cell) || what < 0 || what > 2) {
            return BAD;
        }
        if (what == 0) {
            return "aeiou-".indexOf(now.sounds(cell));
        }
        if (what == 1) {
            return now.whoHas(cell) == '.' ? NONE : now.whoHas(cell) - '0';
        }
        return price(cell);
    }

    int word(int word, int what) {
        if (noWord(word) || what < 0 || what > 2) {
            return BAD;
        }
        String text = now.words[word];
        if (what == 0) {
            return text.length();
        }
        int set = 0;
        if (what == 1) {
            for (int v = 0; v < 5; v++) {
                set += text.indexOf(VOWELS.charAt(v)) >= 0 ? 1 << v : 0;
            }
            return set;
        }
        for (int one = 0; one < now.kinds.length(); one++) {
            set += now.can(one, word) ? 1 << one : 0;
        }
        return set;
    }

    int as(int one, int kind) {
        if (noHolder(one) || kind < 0 || kind > 5) {
            return BAD;
        }
        String[] isOne = {"pbnrh", "pbn", "b", "n", "rh", "h"};
        return isOne[kind].indexOf(now.kinds.charAt(one)) >= 0 ? one : CAST;
    }

    void act() {
        past.addLast(now.twin());
        if (past.size() > 24) {
            past.removeFirst();
        }
    }

    int sell(int cell, int one) {
        if (noCell(cell) || one != NONE && noHolder(one)) {
            return BAD;
        }
        char to = one == NONE ? '.' : (char) ('0' + one);
        char had = now.whoHas(cell);
        if (to == had) {
            return NOT;
        }
        act();
        now.sell(cell, to);
        return had == '.' ? NONE : had - '0';
    }

    int plough(int cell, int sound) {
        if (noCell(cell) || sound < 0 || sound > 5) {
            return BAD;
        }
        int had = cell(cell, 0);
        if (had == sound) {
            return NOT;
        }
        act();
        now.sound[cell / 8][cell % 8] = "aeiou-".charAt(sound);
        return had;
    }

    int year() {
        if (now == null) {
            return NOT;
        }
        act();
        return now.turn();
    }

    int undo() {
        if (past.isEmpty()) {
            return NONE;
        }
        now = past.removeLast();
        return past.size();
    }

    int image(int k) {
        if (k != 0 && k != 1) {
            return BAD;
        }
        if (now == null) {
            return NOT;
        }
        images[k] = now.twin();
        return now.year;
    }

    int restore(int k) {
        if (k != 0 && k != 1) {
            return BAD;
        }
        if (images[k] == null) {
            return NOT;
        }
        now = images[k].twin();
        past.clear();
        return now.year;
    }

    State after(int n) {
        State s = now.twin();
        for (int y = 0; y < n; y++) {
            s.turn();
        }
        return s;
    }

    int behind(int one, int n) {
        return noHolder(one) || n < 0 || n > 60 ? BAD : bits(after(n).says(one));
    }

    int first(int one, int word) {
        if (noHolder(one) || noWord(word)) {
            return BAD;
        }
        for (int n = 0; n <= 60; n++) {
            if (after(n).can(one, word)) {
                return n;
            }
        }
        return NONE;
    }

    int round(int what) {
        if (what != 0 && what != 1) {
            return BAD;
        }
        if (now == null) {
            return NOT;
        }
        List<String> seen = new ArrayList<>();
        State s = now.twin();
        while (!seen.contains(s.soundText())) {
            seen.add(s.soundText());
            s.turn();
        }
        return what == 0 ? seen.size() : seen.size() - seen.indexOf(s.soundText());
    }

    /** All sets of n of these, the first by numbers first. */
    static List<List<Integer>> setsOf(List<Integer> cells, int n) {
        List<List<Integer>> sets = new ArrayList<>();
        if (n == 0) {
            sets.add(new ArrayList<>());
            return sets;
        }
        for (int k = 0; k < cells.size(); k++) {
            for (List<Integer> rest : setsOf(cells.subList(k + 1, cells.size()), n - 1)) {
                List<Integer> set = new ArrayList<>();
                set.add(cells.get(k));
                set.addAll(rest);
                sets.add(set);
            }
        }
        return sets;
    }

    /** Negative where a is to be taken ahead of b. */
    static int order(List<Integer> a, List<Integer> b) {
        int pa = a.stream().mapToInt(PlainModel::price).sum();
        int pb = b.stream().mapToInt(PlainModel::price).sum();
        if (pa != pb) {
            return pa - pb;
        }
        if (a.size() != b.size()) {
            return a.size() - b.size();
        }
        for (int k = 0; k < a.size(); k++) {
            if (!a.get(k).equals(b.get(k))) {
                return a.get(k) - b.get(k);
            }
        }
        return 0;
    }

    int buys(int one, int word, int k) {
        if (noHolder(one) || noWord(word) || k < -1) {
            return BAD;
        }
        List<Integer> open = now.cells();
        open.removeAll(heldBy((char) ('0' + one)));
        List<Integer> best = null;
        for (int n = 3; n >= 0; n--) {
            for (List<Integer> set : setsOf(open, n)) {
                if (best != null && order(set, best) >= 0) {
                    continue;
                }
                State s = now.twin();
                for (int cell : set) {
                    s.sell(cell, (char) ('0' + one));
                }
                if (s.can(one, word)) {
                    best = set;
                }
            }
        }
        if (best == null) {
            return NONE;
        }
        if (k == -1) {
            return best.stream().mapToInt(PlainModel::price).sum();
        }
        return k < best.size() ? best.get(k) : NONE;
    }

    int spread(int cell, List<Integer> left) {
        if (!left.remove((Integer) cell)) {
            return 0;
        }
        int size = 1;
        for (int to : new int[] {cell - 8, cell + 8, cell % 8 > 0 ? cell - 1 : -1, cell % 8 < 5 ? cell + 1 : -1}) {
            size += spread(to, left);
        }
        return size;
    }

    int scattered(int one, int what) {
        if (noHolder(one) || what < 0 || what > 1) {
            return BAD;
        }
        List<Integer> left = heldBy((char) ('0' + one));
        int parts = 0;
        int most = 0;
        while (!left.isEmpty()) {
            parts++;
            most = Math.max(most, spread(left.get(left.size() - 1), left));
        }
        return what == 0 ? parts : most;
    }

    boolean canTalk(int one, int other, int m) {
        TreeSet<Character> alike = now.says(one);
        alike.retainAll(now.says(other));
        return one != other && alike.size() >= m;
    }

    int talk(int one, int m) {
        if (noHolder(one) || m < 1 || m > 5) {
            return BAD;
        }
        int set = 0;
        for (int other = 0; other < now.kinds.length(); other++) {
            set += canTalk(one, other, m) ? 1 << other : 0;
        }
        return set;
    }

    /** All ways to pair, as rows of mates (9: none), told to the list. */
    void pairings(int[] mates, int at, int m, List<int[]> ways) {
        if (at == mates.length) {
            ways.add(mates.clone());
            return;
        }
        if (mates[at] != 9) {
            pairings(mates, at + 1, m, ways);
            return;
        }
        pairings(mates, at + 1, m, ways);
        for (int other = at + 1; other < mates.length; other++) {
            if (mates[other] == 9 && canTalk(at, other, m)) {
                mates[at] = other;
                mates[other] = at;
                pairings(mates, at + 1, m, ways);
                mates[at] = 9;
                mates[other] = 9;
            }
        }
    }

    int marry(int one, int m) {
        if (one != NONE && noHolder(one) || m < 1 || m > 5) {
            return BAD;
        }
        if (now == null) {
            return NOT;
        }
        int[] none = new int[now.kinds.length()];
        Arrays.fill(none, 9);
        List<int[]> ways = new ArrayList<>();
        pairings(none, 0, m, ways);
        int[] best = none;
        for (int[] way : ways) {
            long more = single(best) - single(way);
            if (more > 0 || more == 0 && Arrays.compare(way, best) < 0) {
                best = way;
            }
        }
        if (one == NONE) {
            return (int) (best.length - single(best)) / 2;
        }
        return best[one] == 9 ? NONE : best[one];
    }

    static long single(int[] mates) {
        return Arrays.stream(mates).filter(m -> m == 9).count();
    }

    int letters(int one, int other, int q) {
        if (noHolder(one) || noHolder(other) || one == other || q < 1 || q > 1000000) {
            return BAD;
        }
        TreeSet<Character> alike = now.says(one);
        alike.retainAll(now.says(other));
        for (int n = 0; n <= 20; n++) {
            if (Math.pow(alike.size(), n) >= q) {
                return n;
            }
        }
        return NONE;
    }

    int holdings(int one, int n, int heard, int what) {
        if (noHolder(one) || n < 1 || n > 3 || heard < 0 || heard > 31 || what < 0 || what > 2) {
            return BAD;
        }
        char me = (char) ('0' + one);
        List<List<Integer>> fits = new ArrayList<>();
        List<List<Integer>> all = setsOf(now.cells(), n);
        State bare = now.twin();
        for (int cell : heldBy(me)) {
            bare.sell(cell, '.');
        }
        for (List<Integer> set : all) {
            State s = bare.twin();
            for (int cell : set) {
                s.sell(cell, me);
            }
            if (bits(s.says(one)) == heard) {
                fits.add(set);
            }
        }
        if (what < 2) {
            return what == 0 ? fits.size() : all.size();
        }
        int best = NONE;
        long least = Long.MAX_VALUE;
        for (int cell : now.cells()) {
            long in = fits.stream().filter(set -> set.contains(cell)).count();
            long off = Math.abs(2 * in - fits.size());
            if (!fits.isEmpty() && off < least) {
                least = off;
                best = cell;
            }
        }
        return best;
    }

    int play(State s, int one, int other, int turn, int turns, List<Integer> open) {
        if (turn == turns) {
            return s.says(one).size() - s.says(other).size();
        }
        int who = turn % 2 == 0 ? one : other;
        int best = play(s, one, other, turn + 1, turns, open);
        for (int cell : open) {
            if (s.whoHas(cell) != '.') {
                continue;
            }
            s.sell(cell, (char) ('0' + who));
            int then = play(s, one, other, turn + 1, turns, open);
            s.sell(cell, '.');
            best = who == one ? Math.max(best, then) : Math.min(best, then);
        }
        return best;
    }

    int take(int one, int other, int n) {
        if (noHolder(one) || noHolder(other) || one == other || n < 0 || n > 2) {
            return BAD;
        }
        List<Integer> free = heldBy('.');
        return play(now.twin(), one, other, 0, 2 * n, free.subList(0, Math.min(6, free.size())));
    }

    int chance(int one, int word, int n, int what) {
        if (noHolder(one) || noWord(word) || n < 0 || n > 2 || what < 0 || what > 1) {
            return BAD;
        }
        List<Integer> cells = now.cells();
        int all = (int) Math.pow(cells.size(), n);
        int good = 0;
        for (int way = 0; way < all; way++) {
            State s = now.twin();
            for (int k = 0, left = way; k < n; k++, left /= cells.size()) {
                s.sell(cells.get(left % cells.size()), (char) ('0' + one));
            }
            good += s.can(one, word) ? 1 : 0;
        }
        for (int d = all; d > 1; d--) {
            if (good % d == 0 && all % d == 0) {
                good /= d;
                all /= d;
            }
        }
        return what == 0 ? good : all;
    }

    int drawn(int n, int seed, int what) {
        if (n < 0 || n > 40 || seed < 1 || seed > 999999 || what < 0 || what > 1) {
            return BAD;
        }
        if (now == null) {
            return NOT;
        }
        State s = now.twin();
        long x = seed;
        for (int y = 0; y < n; y++) {
            x = x * 16807 % 2147483647;
            s.sell(s.cells().get((int) (x % s.cells().size())), (char) ('0' + (int) (x / 8 % s.kinds.length())));
            s.turn();
        }
        if (what == 1) {
            return (int) s.cells().stream().filter(cell -> s.whoHas(cell) == '.').count();
        }
        int best = s.kinds.length() - 1;
        for (int one = best; one >= 0; one--) {
            best = s.says(one).size() >= s.says(best).size() ? one : best;
        }
        return best;
    }

    static int laneOf(Object row) {
        return row instanceof byte[] ? 0 : row instanceof short[] ? 1 : row instanceof int[] ? 2 : 3;
    }

    static int sizeOf(Object row) {
        return java.lang.reflect.Array.getLength(row);
    }

    static long get(Object row, int i) {
        return java.lang.reflect.Array.getLong(row, i);
    }

    static void put(Object row, int i, long v) {
        switch (laneOf(row)) {
            case 0:
                ((byte[]) row)[i] = (byte) v;
                break;
            case 1:
                ((short[]) row)[i] = (short) v;
                break;
            case 2:
                ((int[]) row)[i] = (int) v;
                break;
            default:
                ((long[]) row)[i] = v;
                break;
        }
    }

    int sheet(int sheet, int lane, int n) {
        if (sheet < 0 || sheet > 3 || lane < 0 || lane > 3 || n > 24) {
            return BAD;
        }
        if (n < 0) {
            return SIZE;
        }
        Object[] rows = {new byte[n], new short[n], new int[n], new long[n]};
        sheets[sheet] = rows[lane];
        return n;
    }

    int drop(int sheet) {
        if (sheet < 0 || sheet > 3) {
            return BAD;
        }
        if (sheets[sheet] == null) {
            return NULL;
        }
        int n = sizeOf(sheets[sheet]);
        sheets[sheet] = null;
        return n;
    }

    int faultOf(int sheet, int lane, long i, long n) {
        if (sheet < 0 || sheet > 3 || lane < 0 || lane > 3) {
            return BAD;
        }
        if (sheets[sheet] == null) {
            return NULL;
        }
        if (laneOf(sheets[sheet]) != lane) {
            return CAST;
        }
        return i < 0 || n < 0 || i + n > sizeOf(sheets[sheet]) ? INDEX : 0;
    }

    long item(int sheet, int lane, int i, long v) {
        int fault = faultOf(sheet, lane, i, 1);
        if (fault != 0) {
            return fault;
        }
        put(sheets[sheet], i, v);
        return get(sheets[sheet], i);
    }

    int copy(int from, int i, int to, int j, int n) {
        if (from < 0 || from > 3 || to < 0 || to > 3) {
            return BAD;
        }
        if (sheets[from] == null || sheets[to] == null) {
            return NULL;
        }
        if (laneOf(sheets[from]) != laneOf(sheets[to])) {
            return CAST;
        }
        if (faultOf(from, laneOf(sheets[from]), i, n) != 0 || faultOf(to, laneOf(sheets[to]), j, n) != 0) {
            return INDEX;
        }
        long[] held = new long[n];
        for (int k = 0; k < n; k++) {
            held[k] = get(sheets[from], i + k);
        }
        for (int k = 0; k < n; k++) {
            put(sheets[to], j + k, held[k]);
        }
        return n;
    }

    int film(int one, int n, int sheet, int lane, int i) {
        if (noHolder(one) || n < 1 || n > 24) {
            return BAD;
        }
        int fault = faultOf(sheet, lane, i, n);
        if (fault != 0) {
            return fault;
        }
        for (int y = 1; y <= n; y++) {
            put(sheets[sheet], i + y - 1, bits(after(y).says(one)));
        }
        return n;
    }

    int changes(int sheet, int lane, int i, int n, int vowel) {
        if (n < 1 || n > 12 || vowel != NONE && (vowel < 0 || vowel > 4)) {
            return BAD;
        }
        int fault = faultOf(sheet, lane, i, 2L * n);
        if (fault != 0) {
            return fault;
        }
        for (int k = 0; k < 2 * n; k++) {
            if (get(sheets[sheet], i + k) < 0 || get(sheets[sheet], i + k) > 4) {
                return NOT;
            }
        }
        int ways = 0;
        int[] leading = null;
        for (int way = 0; way < 3125; way++) {
            int[] change = {way / 625, way / 125 % 5, way / 25 % 5, way / 5 % 5, way % 5};
            boolean fits = true;
            for (int k = 0; k < n; k++) {
                fits &= change[(int) get(sheets[sheet], i + 2 * k)] == get(sheets[sheet], i + 2 * k + 1);
            }
            if (fits) {
                ways++;
                leading = leading == null ? change : leading;
            }
        }
        if (vowel == NONE) {
            return ways;
        }
        return leading == null ? NONE : leading[vowel];
    }

    int count(int what) {
        if (what < 0 || what > 9) {
            return BAD;
        }
        if (what == 7) {
            return tape.length();
        }
        if (now == null) {
            return 0;
        }
        int said = 0;
        switch (what) {
            case 0:
                return now.kinds.length();
            case 1:
                return now.sound[0].length;
            case 2:
                return now.sound.length;
            case 3:
                return now.year;
            case 4:
                return now.words.length;
            case 5:
                return heldBy('.').size();
            case 6:
                return past.size();
            case 8:
                for (int cell : now.cells()) {
                    said |= 1 << "aeiou-".indexOf(now.sounds(cell));
                }
                return said & 31;
            default:
                for (int one = 0; one < now.kinds.length(); one++) {
                    said |= bits(now.says(one));
                }
                return said;
        }
    }
}
