import java.util.Arrays;

/**
 * Promises 1 to 3, sentence by sentence: what may stand at each place of a LAND, and where a FAULT
 * is. Each place of some texts is tried with each of the 256 bytes.
 */
public final class LandEdgesTest {
    /** A kind of bytes that may stand at a place, and what they are. */
    private static final String[] ALLOWED = {
        "l=l", "K=pbnrh", "H=pbnrh;", "S=aeiou-", "F=aeiou-/;", "R=/;", "/=/", ";=;", "1=0.", "2=01.", "6=012345.",
        "Z=abcdefghijklmnopqrstuvwxyz", "N=abcdefghijklmnopqrstuvwxyz,;", "C=,;", "W=abcdefghijklmnopqrstuvwxyz;", "V=aeiou"};

    private LandEdgesTest() {
    }

    public static void main(String[] args) {
        tape();
        fullTape();
        everyByteAtEachPlace();
        ends();
        blanks();
        manyHolders();
        rowsAndColumns();
        figures();
        words();
        rowsTooLongOrShort();
        wordsTooManyOrLong();
        whatIsRead();
        inPlaceOfTheOneBefore();
        nothingOfWhatWasRead();
        noneAtFirst();
        lastCall();
        Due.end();
    }

    private static void due(String call, long got, long want) {
        Due.due(call, got, want);
    }

    private static void fault(String text, int place) {
        due("land() of " + text, Due.read(new GlebeVowels(), text), -100 - place);
    }

    private static void reads(String text, int holders, int columns, int rows, int words) {
        GlebeVowels x = new GlebeVowels();
        due("land() of " + text, Due.read(x, text), holders);
        due("holders of " + text, x.count(0), holders);
        due("columns of " + text, x.count(1), columns);
        due("rows of " + text, x.count(2), rows);
        due("words of " + text, x.count(4), words);
    }

    /** "A byte (0 .. 255) comes behind THE TAPE: how many it has. BAD; FULL." */
    private static void tape() {
        for (int letter = 0; letter <= 255; letter++) {
            GlebeVowels x = new GlebeVowels();
            due("feed(" + letter + ")", x.feed(letter), 1);
            due("feed(" + letter + "), count(7)", x.count(7), 1);
            due("feed(" + letter + "), land()", x.land(), letter == 'l' ? -101 : -100);
        }
        GlebeVowels x = new GlebeVowels();
        for (int letter : new int[] {-1, 256, 'l' + 256, 'l' - 256, 'l' + 65536, Integer.MAX_VALUE, Integer.MIN_VALUE}) {
            due("feed(" + letter + ")", x.feed(letter), GlebeVowels.BAD);
            due("feed(" + letter + "), count(7)", x.count(7), 0);
        }
        Due.feed(x, "lp;a;0;");
        due("feed(256) amid", x.feed(256), GlebeVowels.BAD);
        due("feed(-1) amid", x.feed(-1), GlebeVowels.BAD);
        Due.feed(x, "sky;aeiou");
        due("bytes that were refused are not on the tape", x.land(), 1);
        due("and change no word", x.word(0, 0), 3);
    }

    /** "THE TAPE has at most 130 bytes": the 130th comes, the 131st does not, and nothing moves. */
    private static void fullTape() {
        String land = "lp;ae;0.;cat;eioua";
        GlebeVowels x = new GlebeVowels();
        Due.feed(x, land);
        for (int n = land.length() + 1; n <= 129; n++) {
            due("feed to " + n, x.feed('x'), n);
        }
        due("129 bytes", x.count(7), 129);
        due("the 130th", x.feed('x'), 130);
        due("130 bytes", x.count(7), 130);
        due("the 131st", x.feed('x'), GlebeVowels.FULL);
        due("the 131st again", x.feed(0), GlebeVowels.FULL);
        due("BAD ahead of FULL", x.feed(256), GlebeVowels.BAD);
        due("BAD ahead of FULL, below", x.feed(-1), GlebeVowels.BAD);
        due("130 bytes still", x.count(7), 130);
        due("the first byte too many", x.land(), -100 - land.length());
        due("empty then", x.count(7), 0);
        due("a byte again", x.feed('l'), 1);
        due("the end of one byte", x.land(), -101);
        due("empty then, too", x.land(), -100);
    }

    private static String allowed(char kind) {
        for (String row : ALLOWED) {
            if (row.charAt(0) == kind) {
                return row.substring(2);
            }
        }
        due("no kind of bytes " + kind, 1, 0);
        return "";
    }

    /** A byte that may stand there goes on to the next place (or ends a LAND); any other is the FAULT. */
    private static void places(String text, String kinds, int holders) {
        due("a kind for each place of " + text, kinds.length(), text.length());
        for (int place = 0; place < text.length(); place++) {
            String may = allowed(kinds.charAt(place));
            String ahead = text.substring(0, place);
            String behind = text.substring(place + 1);
            for (int b = 0; b < 256; b++) {
                boolean stands = may.indexOf((char) b) >= 0;
                boolean last = place == text.length() - 1;
                long want = stands ? last ? holders : -100 - (place + 1) : -100 - place;
                due("byte " + b + " at " + place + " of " + text, Due.read(new GlebeVowels(), ahead + (char) b), want);
                if (!stands) {
                    due("byte " + b + " amid " + text, Due.read(new GlebeVowels(), ahead + (char) b + behind), want);
                }
            }
        }
        for (int b = 0; b < 256; b++) {
            fault(text + (char) b, text.length());
        }
        due("land() of " + text, Due.read(new GlebeVowels(), text), holders);
    }

    /** "A LAND is l HOLDERS ; cells ; whose ; words ; change, nothing behind it", from the least to the greatest. */
    private static void everyByteAtEachPlace() {
        places("lp;-;.;y;aaaaa",
            "lKHSF1;ZNVVVVV", 1);
        places("lpb;ae/o-;01/.0;cat,x;eioua",
            "lKHHSFFSSR22/22;ZNNNZNVVVVV", 2);
        places("lp;aeiou-/u-aaae;000000/......;a,b,c,z;aeiou",
            "lKHSFFFFFRSSSSSSR111111/111111;ZNZNZNZWVVVVV", 1);
        places("lpbnrhp;a/e/i/o/u/-;0/1/2/3/4/5;mnopqr,a;uoiea",
            "lKHHHHH;SFSRSRSRSRS;6/6/6/6/6/6;ZNNNNNCZNVVVVV", 6);
        places("lpbnrhp;aeiou-/uoieaa/iiiiii/oooooo/------/aaaaau;012345/543210/....../111111/222222/......"
            + ";abcdef,ghijkl,mnopqr,uvwxyz;uuuuu",
            "lKHHHHH;SFFFFFRSSSSSSRSSSSSSRSSSSSSRSSSSSSRSSSSSS;666666/666666/666666/666666/666666/666666"
            + ";ZNNNNNCZNNNNNCZNNNNNCZWWWWW;VVVVV", 6);
    }

    /** "the end: how many bytes there are": a text that stops too early, at each of its places. */
    private static void ends() {
        String great = "lpbnrhp;aeiou-/uoieaa/iiiiii/oooooo/------/aaaaau;012345/543210/....../111111/222222/......"
            + ";abcdef,ghijkl,mnopqr,uvwxyz;uuuuu";
        for (int end = 0; end < great.length(); end++) {
            fault(great.substring(0, end), end);
        }
        due("the greatest land", Due.read(new GlebeVowels(), great), 6);
    }

    /** "No blanks." */
    private static void blanks() {
        String land = "lpb;ae/o-;01/.0;cat,x;eioua";
        for (int place = 0; place <= land.length(); place++) {
            fault(land.substring(0, place) + " " + land.substring(place), place);
            fault(land.substring(0, place) + "\n" + land.substring(place), place);
        }
    }

    /** "HOLDERS are 1 to 6 letters (0, 1, .. as they come)". */
    private static void manyHolders() {
        fault("l;a;.;y;aeiou", 1);
        String holders = "hrnbph";
        for (int n = 1; n <= 6; n++) {
            String text = "l" + holders.substring(0, n) + ";a;" + (n - 1) + ";y;aeiou";
            reads(text, n, 1, 1, 1);
            GlebeVowels x = Due.on(text);
            for (int one = 0; one < n; one++) {
                due("kind of " + one + " of " + text, x.holder(one, 0), 1 + "pbnrh".indexOf(holders.charAt(one)));
            }
            due("no holder " + n + " of " + text, x.holder(n, 0), GlebeVowels.BAD);
            due("the last one holds it", x.cell(0, 1), n - 1);
        }
        fault("lpppppp" + "p" + ";a;.;y;aeiou", 7);
        fault("lppppppp", 7);
    }

    private static String rowsOf(String row, int rows) {
        return (row + "/").repeat(rows - 1) + row;
    }

    /** "Cells are 1 to 6 rows of 1 to 6 letters, each of as many .. Whose are as many rows of as many". */
    private static void rowsAndColumns() {
        for (int rows = 1; rows <= 7; rows++) {
            for (int columns = 1; columns <= 7; columns++) {
                String cells = rowsOf("aeiou-a".substring(0, columns), rows);
                String text = "lp;" + cells + ";" + rowsOf("0.0.0.0".substring(0, columns), rows) + ";y;aeiou";
                if (columns == 7) {
                    fault(text, 9);
                } else if (rows == 7) {
                    fault(text, 3 + 6 * (columns + 1) - 1);
                } else {
                    reads(text, 1, columns, rows, 1);
                    numbers(text, columns, rows);
                }
            }
        }
        fault("lp;;.;y;aeiou", 3);
        fault("lp;/a;./.;y;aeiou", 3);
        fault("lp;a/;./.;y;aeiou", 5);
        fault("lp;a//a;././.;y;aeiou", 5);
    }

    /** "CELLS are numbered 8 times the row (from the north) and the column (from the west)." */
    private static void numbers(String text, int columns, int rows) {
        GlebeVowels x = Due.on(text);
        for (int number = -9; number < 80; number++) {
            boolean is = number >= 0 && number / 8 < rows && number % 8 < columns;
            due("sound of " + number + " of " + text, x.cell(number, 0), is ? number % 8 : -1);
            due("holder of " + number + " of " + text, x.cell(number, 1), !is ? -1 : number % 2 == 0 ? 0 : -4);
            due("price of " + number + " of " + text, x.cell(number, 2), !is ? -1 : number / 8 + number % 8 + 1);
        }
    }

    /** "the figure of the HOLDER who holds the cell, or . (nobody)": no figure of one who is not there. */
    private static void figures() {
        for (int holders = 1; holders <= 6; holders++) {
            for (int figure = 0; figure <= 9; figure++) {
                String text = "l" + "p".repeat(holders) + ";ae;." + figure + ";y;aeiou";
                if (figure < holders) {
                    reads(text, holders, 2, 1, 1);
                    due("who holds 1 of " + text, Due.on(text).cell(1, 1), figure);
                } else {
                    fault(text, holders + 6);
                }
            }
        }
        GlebeVowels x = Due.on("lp;ae;..;y;aeiou");
        due("a dot is nobody", x.cell(0, 1), GlebeVowels.NONE);
        due("two of nobody", x.count(5), 2);
    }

    /** "Words are 1 to 4, with , between, of 1 to 6 letters a to z each." */
    private static void words() {
        String[] words = {"a", "zz", "abc", "wxyz", "azazaz"};
        for (int n = 1; n <= 4; n++) {
            String text = "lp;a;0;" + String.join(",", Arrays.copyOf(words, n)) + ";aeiou";
            reads(text, 1, 1, 1, n);
            for (int word = 0; word < n; word++) {
                due("letters of word " + word + " of " + text, Due.on(text).word(word, 0), word + 1);
            }
            due("no word " + n + " of " + text, Due.on(text).word(n, 0), GlebeVowels.BAD);
        }
        for (int n = 1; n <= 7; n++) {
            String text = "lp;a;0;y," + "mmmmmmm".substring(0, n) + ";aeiou";
            if (n == 7) {
                fault(text, 15);
            } else {
                reads(text, 1, 1, 1, 2);
                due("letters of " + text, Due.on(text).word(1, 0), n);
            }
        }
        fault("lp;a;0;;aeiou", 7);
        fault("lp;a;0;,a;aeiou", 7);
        fault("lp;a;0;a,;aeiou", 9);
        fault("lp;a;0;a,,a;aeiou", 9);
    }

    /**
     * "a letter that a row has more than the first one; what ends a row too early; the / ahead of a
     * seventh row, of a row of whose more than there are rows; what ends the rows of whose too early".
     */
    private static void rowsTooLongOrShort() {
        fault("lp;ae/iou;../..;y;aeiou", 8);
        fault("lp;ae/io/uaa;../../..;y;aeiou", 11);
        fault("lp;ae/i/ou;../../..;y;aeiou", 7);
        fault("lp;ae/i;../..;y;aeiou", 7);
        fault("lp;aei/o;.../...;y;aeiou", 8);
        fault("lp;aei/ou;.../...;y;aeiou", 9);
        fault("lp;a/e/i/o/u/-/a;././././././.;y;aeiou", 14);
        fault("lp;a/e/i/o/u/-/;./././././.;y;aeiou", 14);
        fault("lp;ae/io;00/00/00;y;aeiou", 14);
        fault("lp;ae/io;00/00/;y;aeiou", 14);
        fault("lp;ae;00/00;y;aeiou", 8);
        fault("lp;a/e/i/o/u/-;0/0/0/0/0/0/0;y;aeiou", 26);
        fault("lp;ae/io;00;y;aeiou", 11);
        fault("lp;ae/io/ua;00/00;y;aeiou", 17);
        fault("lp;ae/io;00/000;y;aeiou", 14);
        fault("lp;ae/io;000/00;y;aeiou", 11);
        fault("lp;ae/io;00/0;y;aeiou", 13);
        fault("lp;ae/io;0/00;y;aeiou", 10);
        fault("lp;ae/io;/00;y;aeiou", 9);
        fault("lp;ae/io;;y;aeiou", 9);
        fault("lp;ae/io;00/;y;aeiou", 12);
    }

    /** "Words are 1 to 4 .. of 1 to 6 letters", "Change is five of a e i o u", "nothing behind it": where the FAULT is. */
    private static void wordsTooManyOrLong() {
        fault("lp;a;0;a,b,c,d,e;aeiou", 14);
        fault("lp;a;0;a,b,c,d,;aeiou", 14);
        fault("lp;a;0;abcdefg;aeiou", 13);
        fault("lp;a;0;a;aei;", 12);
        fault("lp;a;0;a;aeioua", 14);
        fault("lp;a;0;a;", 9);
        fault("lp;a;0;a;aeiou;", 14);
        fault("lp;a;0;a;aei-u", 12);
        fault("lp;a;0;a;aeyou", 11);
    }

    /** What each part says is what is there then. */
    private static void whatIsRead() {
        GlebeVowels x = Due.on("lhrnbp;-uoiea/aaaaau;01234./......;aeiou,uuuuuu,bcdfgh,y;uoiea");
        for (int v = 0; v < 6; v++) {
            due("sound " + v, x.cell(v, 0), 5 - v);
            due("whose " + v, x.cell(v, 1), v == 5 ? GlebeVowels.NONE : v);
            due("kind " + v, x.holder(v, 0), v == 5 ? GlebeVowels.BAD : 5 - v);
        }
        due("the last of the second row", x.cell(13, 0), 4);
        due("vowels of word 0", x.word(0, 1), 31);
        due("vowels of word 1", x.word(1, 1), 16);
        due("vowels of word 2", x.word(2, 1), 0);
        due("vowels of word 3", x.word(3, 1), 0);
        due("by the change all but the i and the air", x.year(), 10);
        for (int v = 1; v < 6; v++) {
            due("sound " + v + " in a year", x.cell(v, 0), v - 1);
        }
        due("air stays", x.cell(0, 0), 5);
    }

    /** "A LAND that is read stands in place of the one before ..: YEAR 0; nothing can be undone". */
    private static void inPlaceOfTheOneBefore() {
        GlebeVowels x = Due.on("lpbnrhp;aeiou-/aeiou-;012345/......;a,e,i,o;eioua");
        x.year();
        x.sell(0, 5);
        due("the next land", Due.read(x, "lh;-/u;./0;yyyyyy;aaaaa"), 1);
        int[] counts = {1, 1, 2, 0, 1, 1, 0, 0, 16, 0};
        for (int what = 0; what < counts.length; what++) {
            due("the next land, count(" + what + ")", x.count(what), counts[what]);
        }
        due("the next land, undo()", x.undo(), GlebeVowels.NONE);
        due("the next land, kind", x.holder(0, 0), 5);
        due("the next land, no holder 1", x.holder(1, 0), GlebeVowels.BAD);
        due("the next land, no cell 1", x.cell(1, 0), GlebeVowels.BAD);
        due("the next land, cell 8", x.cell(8, 0), 4);
        due("the next land, no word 1", x.word(1, 0), GlebeVowels.BAD);
        due("the next land, letters", x.word(0, 0), 6);
        due("the next land, the change", x.year(), 1);
        due("the next land, a", x.cell(8, 0), 0);
        due("undone", x.undo(), 0);
        due("the next land again", x.cell(8, 0), 4);
        due("a land with the same tape", Due.read(x, "lh;-/u;./0;yyyyyy;aaaaa"), 1);
    }

    /** .. and nothing of what was read before is in it, be it a greater LAND or one with a FAULT. */
    private static void nothingOfWhatWasRead() {
        String air = rowsOf("------", 6);
        String[] before = {
            "lpbnrhp;" + air + ";" + rowsOf("012345", 6) + ";a,e,i,o;uuuuu",
            "lpbnrhp;" + air + ";" + rowsOf("012345", 6) + ";aeiou,e,i,o;uuuu-",
            "lhhhhhh;" + rowsOf("aeiou-", 6) + ";" + rowsOf("......", 6) + ";y,y,y;ooooo",
            "lhhhhhh;" + rowsOf("u-u-u-", 6) + ";" + rowsOf("555555", 6) + ";abcdef,abcdef,abcdef,abcdefg",
            "lp;------/---"};
        String[] lands = {"lp;a;0;y;aeiou", "lpp;ae/iu;1./01;ae,iou;eaiuo", "lr;-a-/---;.0./0..;cat,dog,owl;eioua"};
        for (String first : before) {
            for (String second : before) {
                for (String land : lands) {
                    GlebeVowels x = new GlebeVowels();
                    Due.read(x, first);
                    Due.read(x, second);
                    Due.read(x, land);
                    due("as on a new object: " + land + " behind " + first + " and " + second,
                        Arrays.mismatch(told(x), told(Due.on(land))), -1);
                }
            }
        }
    }

    private static int[] told(GlebeVowels x) {
        int[] told = new int[300];
        int at = 0;
        for (int what = 0; what < 10; what++) {
            told[at++] = x.count(what);
        }
        for (int cell = 0; cell < 64; cell++) {
            told[at++] = x.cell(cell, 0);
            told[at++] = x.cell(cell, 1);
        }
        for (int one = 0; one < 7; one++) {
            for (int what = 0; what < 6; what++) {
                told[at++] = x.holder(one, what);
            }
        }
        for (int word = 0; word < 5; word++) {
            for (int what = 0; what < 3; what++) {
                told[at++] = x.word(word, what);
            }
        }
        told[at++] = x.drawn(9, 77, 1);
        told[at++] = x.round(0);
        told[at++] = x.year();
        told[at++] = x.undo();
        told[at] = x.undo();
        return told;
    }

    /** "(none at first)". */
    private static void noneAtFirst() {
        GlebeVowels x = new GlebeVowels();
        due("the tape is empty at first", x.land(), -100);
        due("a fault makes no land", x.count(0), 0);
        due("nor a year", x.year(), GlebeVowels.NOT);
        due("a fault at the last byte", Due.read(x, "lp;a;0;y;aeio-"), -113);
        for (int what = 0; what < 10; what++) {
            due("without a land, count(" + what + ")", x.count(what), 0);
        }
        due("no holder", x.holder(0, 0), GlebeVowels.BAD);
        due("no cell", x.cell(0, 0), GlebeVowels.BAD);
        due("no word", x.word(0, 0), GlebeVowels.BAD);
        due("no image", x.image(0), GlebeVowels.NOT);
        for (int sheet = 0; sheet < 4; sheet++) {
            due("no sheet " + sheet, x.drop(sheet), GlebeVowels.NULL);
        }
    }

    /** "An object is used for at most 512 calls": the 512th is answered as the first. */
    private static void lastCall() {
        String land = "lp;ae/-u;0./.0;cat;eioua";
        GlebeVowels x = Due.on(land);
        for (int call = land.length() + 2; call < 512; call++) {
            x.sell(1, call % 2 == 0 ? 0 : GlebeVowels.NONE);
        }
        due("the 512th call", x.holder(0, 3), Due.set(0, 4));
    }
}
