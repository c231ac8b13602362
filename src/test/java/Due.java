/** What the tests share: calls whose answer is not the one that is due are told and counted. */
final class Due {
    private static int wrong = 0;
    private static int asked = 0;

    private Due() {
    }

    static void due(String call, long got, long want) {
        asked++;
        if (got != want) {
            wrong++;
            System.out.println(call + " answered " + got + ", due is " + want);
        }
    }

    /** Ends the test: exit code 1 where an answer was not due. */
    static void end() {
        System.out.println(asked + " answers, " + wrong + " of them not as due");
        if (wrong != 0) {
            System.exit(1);
        }
    }

    static void feed(GlebeVowels x, String text) {
        for (int i = 0; i < text.length(); i++) {
            x.feed(text.charAt(i));
        }
    }

    /** Feeds a text and reads it. */
    static int read(GlebeVowels x, String text) {
        feed(x, text);
        return x.land();
    }

    /** A new object with this LAND. */
    static GlebeVowels on(String text) {
        GlebeVowels x = new GlebeVowels();
        int holders = read(x, text);
        if (holders < 1) {
            due("land() of " + text, holders, text.indexOf(';') - 1);
        }
        return x;
    }

    /** A new object with a LAND whose cells are these, of words and a change that matter little. */
    static GlebeVowels on(String holders, String cells, String whose) {
        return on("l" + holders + ";" + cells + ";" + whose + ";a;eioua");
    }

    /** What is asked of a number; -1 where it is refused as one that is not as told. */
    interface Asked {
        long of(int number);
    }

    /** Each number from least to greatest is as told; what lies outside, near or far, is BAD. */
    static void range(String call, int least, int greatest, Asked asked) {
        for (int number = least; number <= greatest; number++) {
            due(call + " of " + number + " is BAD", asked.of(number) == GlebeVowels.BAD ? 1 : 0, 0);
        }
        int[] outside = {least - 1, least - 2, greatest + 1, greatest + 2, Integer.MIN_VALUE, Integer.MAX_VALUE,
            least - 256, greatest + 256, least + (1 << 16), least + (1 << 30)};
        for (int number : outside) {
            if (number >= least && number <= greatest) {
                continue;
            }
            due(call + " of " + number, asked.of(number), GlebeVowels.BAD);
        }
    }

    /** A set of the numbers told. */
    static int set(int... numbers) {
        int bits = 0;
        for (int number : numbers) {
            bits |= 1 << number;
        }
        return bits;
    }
}
