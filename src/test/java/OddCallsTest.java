import java.util.ArrayList;
import java.util.List;

/**
 * All promises: arguments from far outside are answered, never thrown at, and what is refused
 * changes nothing. Each call meets an object of its own.
 */
public final class OddCallsTest {
    private static final int[] ODD = {Integer.MIN_VALUE, -65, -5, -4, -3, -1, 0, 1, 2, 3, 5, 7, 25, 64, 131,
        1 << 30, Integer.MAX_VALUE};
    private static final String[] LANDS = {"", "lphn;aei/o-u;012/.0.;cat,queue;eioua", "lr;-;.;y;aaaaa"};

    private OddCallsTest() {
    }

    private interface Call {
        long on(GlebeVowels x);
    }

    public static void main(String[] args) {
        List<Call> calls = callsOfOne();
        calls.addAll(callsOfTwo());
        calls.addAll(callsOfThree());
        calls.addAll(callsOfMore());
        for (String land : LANDS) {
            for (int k = 0; k < calls.size(); k++) {
                answer(land, calls.get(k), k);
            }
        }
        Due.end();
    }

    private static GlebeVowels made(String land) {
        GlebeVowels x = new GlebeVowels();
        Due.feed(x, land);
        if (!land.isEmpty()) {
            x.land();
            x.image(0);
            x.year();
            x.plough(0, 3);
        }
        x.sheet(0, 2, 4);
        x.item(0, 2, 1, 3);
        x.feed('l');
        return x;
    }

    private static void answer(String land, Call call, int k) {
        GlebeVowels x = made(land);
        long before = k % 5 == 0 ? traces(x) : 0;
        long got;
        try {
            got = call.on(x);
        } catch (RuntimeException | StackOverflowError e) {
            Due.due("call " + k + " on '" + land + "' threw " + e, 1, 0);
            return;
        }
        boolean refused = got == -1 || got == -2 || got == -3 || got <= -11 && got >= -14;
        if (k % 5 == 0 && refused) {
            Due.due("what was refused, call " + k + " on '" + land + "', left behind", traces(x), before);
        }
    }

    /** One number out of much that an object tells, and of its sheet 0. */
    private static long traces(GlebeVowels x) {
        long sum = 17;
        for (int what = 0; what < 10; what++) {
            sum = sum * 31 + x.count(what);
        }
        for (int cell = 0; cell < 16; cell++) {
            sum = (sum * 31 + x.cell(cell, 0)) * 31 + x.cell(cell, 1);
        }
        for (int i = 0; i < 4; i++) {
            sum = sum * 31 + x.changes(0, 2, i, 1, -4);
            sum = sum * 31 + x.changes(0, 2, i, 1, 0);
            sum = sum * 31 + x.copy(i, 0, i, 0, 0);
        }
        return sum;
    }

    private static List<Call> callsOfOne() {
        List<Call> calls = new ArrayList<>();
        for (int a : ODD) {
            calls.add(x -> x.feed(a));
            calls.add(x -> x.image(a));
            calls.add(x -> x.restore(a));
            calls.add(x -> x.round(a));
            calls.add(x -> x.drop(a));
            calls.add(x -> x.count(a));
        }
        calls.add(GlebeVowels::land);
        calls.add(GlebeVowels::year);
        calls.add(GlebeVowels::undo);
        return calls;
    }

    private static List<Call> callsOfTwo() {
        List<Call> calls = new ArrayList<>();
        for (int a : ODD) {
            for (int b : ODD) {
                calls.add(x -> x.holder(a, b));
                calls.add(x -> x.cell(a, b));
                calls.add(x -> x.word(a, b));
                calls.add(x -> x.as(a, b));
                calls.add(x -> x.sell(a, b));
                calls.add(x -> x.plough(a, b));
                calls.add(x -> x.behind(a, b));
                calls.add(x -> x.first(a, b));
                calls.add(x -> x.scattered(a, b));
                calls.add(x -> x.talk(a, b));
                calls.add(x -> x.marry(a, b));
            }
        }
        return calls;
    }

    private static List<Call> callsOfThree() {
        List<Call> calls = new ArrayList<>();
        for (int a : ODD) {
            for (int b : ODD) {
                for (int c : ODD) {
                    calls.add(x -> x.buys(a, b, c));
                    calls.add(x -> x.letters(a, b, c));
                    calls.add(x -> x.take(a, b, c));
                    calls.add(x -> x.drawn(a, b, c));
                    calls.add(x -> x.sheet(a, b, c));
                    calls.add(x -> x.holdings(1, a, b, c));
                    calls.add(x -> x.chance(a, 0, b, c));
                    calls.add(x -> x.chance(0, a, b, c));
                    calls.add(x -> x.holdings(a, 1, b, c));
                }
            }
        }
        return calls;
    }

    private static List<Call> callsOfMore() {
        List<Call> calls = new ArrayList<>();
        for (int a : ODD) {
            for (int b : ODD) {
                for (int c : ODD) {
                    calls.add(x -> x.item(a, b, c, c));
                    calls.add(x -> x.item(0, 2, a, (long) b << 32 | c & 7));
                    calls.add(x -> x.copy(0, a, 0, b, c));
                    calls.add(x -> x.copy(a, 0, b, c, 1));
                    calls.add(x -> x.film(0, a, 0, b, c));
                    calls.add(x -> x.film(a, 2, b, 2, c));
                    calls.add(x -> x.changes(0, 2, a, b, c));
                    calls.add(x -> x.changes(a, b, c, 1, -4));
                }
            }
        }
        return calls;
    }
}
