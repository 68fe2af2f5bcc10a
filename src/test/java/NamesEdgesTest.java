/** Terms I, sentence by sentence, at their edges: rows, the struck and the moved, the alike. */
public final class NamesEdgesTest {
    private static final int NONE = FirstPolls.NONE;
    private static final int ANNA = Check.letters("anna");

    private static FirstPolls land() {
        FirstPolls x = new FirstPolls();
        x.place(0, 0, 0);
        x.place(1, 10, 0);
        x.place(5, 99, 99);
        Check.orders(x, 0, "on");
        return x;
    }

    /** "four letters a .. z": each of the four by itself. */
    private static void letters() {
        int[] wrong = {0, 'A', 'Z', 'a' - 1, 'z' + 1, ' ', '0', 'a' + 128, 255};
        for (int shift = 0; shift < 32; shift += 8) {
            int others = ANNA & ~(255 << shift);
            FirstPolls x = land();
            for (int sign : wrong) {
                Check.refused(x, "letter " + sign + " at " + shift,
                        x.name(0, 0, 0, 0, others | (sign << shift), 0), -1);
            }
            Check.accepted(x, "a at " + shift, x.name(0, 0, 0, 0, others | ('a' << shift), 0), 0);
            Check.accepted(x, "z at " + shift, x.name(0, 0, 0, 0, others | ('z' << shift), 0), 1);
            Check.due("its letters", x.of(1, 4), others | ('z' << shift));
        }
    }

    /** "PLACES 0 .. 15 (16 at most)", "NAMES 0 .. 199 (200 at most)": the last of them work too. */
    private static void theLastOnes() {
        FirstPolls x = new FirstPolls();
        Check.orders(x, 0, "on");
        for (int i = 0; i < 16; i++) {
            x.place(i % 6, i, i);
        }
        for (int i = 0; i < 200; i++) {
            x.name(i % 16, i % 100, i % 121, i % 4, Check.letters("zaz" + (char) ('a' + i % 26)), i);
        }
        int[] want = {199 % 16, 99, 199 % 121, 3, Check.letters("zazr")};
        for (int what = 0; what < 5; what++) {
            Check.due("the last name's " + what, x.of(199, what), want[what]);
        }
        Check.due("it is known", x.where(199, 0, 199), 7);
        Check.due("it is not known yet", x.where(199, 0, 198), NONE);
        Check.due("it is on", x.on(199, 0, 199), 1);
        Check.due("all are on", x.roll(7, 0, 199), 13);
        Check.due("all are on", x.roll(15, 0, 199), 12);
        Check.due("all but the last", x.roll(7, 0, 198), 12);
        Check.accepted(x, "it moves to the last place", x.moved(199, 15, 300, 0), 0);
        Check.due("there it is", x.roll(15, 300, 199), 13);
        Check.accepted(x, "it is struck", x.off(199, 301, 0), 0);
        Check.due("there it is no more", x.roll(15, 301, 199), 12);
        x = new FirstPolls();
        Check.orders(x, 0, "on");
        x.place(0, 0, 0);
        x.place(0, 0, 0);
        for (int i = 0; i < 200; i++) {
            x.name(i / 199, i % 100, 60 * (i % 3), 0, Check.letters("qrs" + (char) ('a' + i % 26)), 0);
        }
        Check.due("the last of all pairs", x.twice(0, 0, x.twice(0, 0, NONE) - 1) % 200, 199);
        Check.due("no pair behind the last", x.twice(0, 0, x.twice(0, 0, NONE)), NONE);
    }

    /** "HOUSE 0 .. 99, AGE 0 .. 120", KIND 0 .. 3, letters: each byte of a ROW by itself. */
    private static void bytesOfARow() {
        byte[] least = {0, 0, 0, 'a', 'a', 'a', 'a'};
        byte[] greatest = {99, 120, 3, 'z', 'z', 'z', 'z'};
        int[] below = {256, 256, 256, 'a' - 1, 'a' - 1, 'a' - 1, 'a' - 1};
        for (int i = 0; i < 7; i++) {
            FirstPolls x = land();
            Check.tape(x, least);
            Check.tape(x, with(greatest, i, greatest[i] + 1));
            Check.tape(x, with(greatest, i, 255));
            Check.tape(x, with(greatest, i, 128));
            Check.tape(x, greatest);
            if (below[i] < 256) {
                Check.tape(x, with(least, i, below[i]));
            }
            Check.accepted(x, "two of them can be, byte " + i, x.row(1, 0), 2);
            Check.due("names", x.all(1), 2);
            for (int what = 1; what < 4; what++) {
                Check.due("the first", x.of(0, what), least[what - 1]);
                Check.due("the one behind those passed by", x.of(1, what), greatest[what - 1]);
            }
            Check.due("letters", x.of(0, 4), Check.letters("aaaa"));
            Check.due("letters", x.of(1, 4), Check.letters("zzzz"));
            Check.due("of the row's place", x.of(1, 0), 1);
        }
    }

    private static byte[] with(byte[] of, int at, int sign) {
        byte[] other = of.clone();
        other[at] = (byte) sign;
        return other;
    }

    /** "If the TAPE ends within a NAME, that one is none": at each of its bytes. */
    private static void rowsThatBreakOff() {
        byte[] name = {1, 2, 3, 'a', 'b', 'c', 'd'};
        for (int bytes = 1; bytes <= 21; bytes++) {
            FirstPolls x = land();
            Check.tape(x, name);
            Check.tape(x, name);
            Check.tape(x, name);
            x.end(bytes);
            Check.accepted(x, "a row of " + bytes + " bytes", x.row(0, 0), bytes / 7);
            Check.due("names", x.all(1), bytes / 7);
            Check.due("the tape is empty then", x.all(8), 0);
            Check.refused(x, "so there is no row", x.row(0, 0), -6);
        }
    }

    /** "The TAPE of at most 400 bytes", "bytes through seven, cut". */
    private static void theLongestRow() {
        FirstPolls x = land();
        for (int i = 0; i < 143; i++) {
            x.name(0, 0, 0, 0, ANNA, 0);
        }
        fillWithNames(x);
        Check.accepted(x, "57 names and a byte", x.row(0, 0), 57);
        Check.due("there are 200 then", x.all(1), 200);
        x = land();
        for (int i = 0; i < 144; i++) {
            x.name(0, 0, 0, 0, ANNA, 0);
        }
        fillWithNames(x);
        Check.refused(x, "one more than there is room for", x.row(0, 0), -5);
        Check.due("none of them became a name", x.all(1), 144);
        Check.due("the tape stays", x.all(8), 400);
        x.end(399);
        Check.refused(x, "57 are in 399 bytes", x.row(0, 0), -5);
        x.end(398);
        Check.accepted(x, "56 and what breaks off", x.row(0, 0), 56);
        Check.due("there are 200 then", x.all(1), 200);
        x = land();
        for (int i = 0; i < 200; i++) {
            x.name(0, 0, 0, 0, ANNA, 0);
        }
        Check.tape(x, new byte[7]);
        Check.refused(x, "no room, though it can't be a name", x.row(0, 0), -5);
        x.end(6);
        Check.accepted(x, "nothing that needs room", x.row(0, 0), 0);
    }

    private static void fillWithNames(FirstPolls x) {
        byte[] bytes = new byte[400];
        for (int i = 0; i < bytes.length; i++) {
            bytes[i] = (byte) (i % 7 < 3 ? 1 : 'k');
        }
        Check.tape(x, bytes);
    }

    /** A row's names are known from its day on, of any day. */
    private static void rowsAsKnown() {
        for (int known : new int[] {0, 1, 399}) {
            FirstPolls x = land();
            Check.tape(x, new byte[] {1, 2, 0, 'a', 'b', 'c', 'd'});
            Check.accepted(x, "row", x.row(2, known), 1);
            Check.due("known", x.where(0, 0, known), 2);
            Check.due("on", x.on(0, 0, known), 1);
            if (known > 0) {
                Check.due("not known", x.where(0, 399, known - 1), NONE);
                Check.due("not on", x.on(0, 399, known - 1), 0);
                Check.due("not on the roll", x.roll(2, 399, known - 1), 0);
            }
        }
    }

    /** "STRUCK is a NAME from a DAY on (once), ... known from a DAY on", on the first and last DAY. */
    private static void struck() {
        for (int day : new int[] {0, 1, 200, 399}) {
            for (int known : new int[] {0, 1, 200, 399}) {
                FirstPolls x = land();
                x.name(0, 1, 30, 0, ANNA, 0);
                Check.accepted(x, "off", x.off(0, day, known), 0);
                Check.refused(x, "once", x.off(0, 0, 0), -4);
                Check.due("struck", x.on(0, day, known), 0);
                Check.due("struck on the last day", x.on(0, 399, 399), 0);
                if (day > 0) {
                    Check.due("not struck yet", x.on(0, day - 1, 399), 1);
                }
                if (known > 0) {
                    Check.due("not known to be struck", x.on(0, 399, known - 1), 1);
                }
                Check.due("it is there", x.where(0, 399, 399), 0);
                Check.due("on no roll", x.roll(0, day, known), 0);
            }
        }
    }

    /** "MOVED to another PLACE from a DAY on (once)", "if that DAY is not ahead of that". */
    private static void moved() {
        for (int day : new int[] {0, 1, 200, 399}) {
            for (int known : new int[] {0, 1, 200, 399}) {
                FirstPolls x = land();
                x.name(0, 1, 30, 0, ANNA, 0);
                Check.accepted(x, "moved", x.moved(0, 2, day, known), 0);
                Check.refused(x, "once", x.moved(0, 1, 0, 0), -4);
                Check.due("moved", x.where(0, day, known), 2);
                Check.due("moved on the last day", x.where(0, 399, 399), 2);
                Check.due("on the roll there", x.roll(2, day, known), 1);
                Check.due("on no roll here", x.roll(0, day, known), 0);
                if (day > 0) {
                    Check.due("not moved yet", x.where(0, day - 1, 399), 0);
                    Check.due("on the roll here", x.roll(0, day - 1, 399), 1);
                }
                if (known > 0) {
                    Check.due("not known to have moved", x.where(0, 399, known - 1), 0);
                }
                Check.due("its own place stays", x.of(0, 0), 0);
            }
        }
        FirstPolls x = land();
        x.name(0, 1, 30, 0, ANNA, 5);
        x.moved(0, 1, 0, 0);
        Check.due("moved, but not known itself", x.where(0, 0, 4), NONE);
        Check.due("moved and known", x.where(0, 0, 5), 1);
        Check.refused(x, "back to its own place", x.moved(0, 0, 9, 9), -3);
    }

    /** A NAME may be both STRUCK and MOVED, whichever is told first. */
    private static void struckAndMoved() {
        for (int order = 0; order < 2; order++) {
            FirstPolls x = land();
            x.name(0, 1, 30, 0, ANNA, 0);
            if (order == 0) {
                Check.accepted(x, "off", x.off(0, 20, 9), 0);
            }
            Check.accepted(x, "moved", x.moved(0, 2, 10, 5), 0);
            if (order == 1) {
                Check.accepted(x, "off", x.off(0, 20, 9), 0);
            }
            Check.refused(x, "off", x.off(0, 20, 9), -4);
            Check.refused(x, "moved", x.moved(0, 1, 10, 5), -4);
            Check.due("moved", x.where(0, 10, 5), 2);
            Check.due("not moved yet", x.where(0, 9, 399), 0);
            Check.due("not known to have moved", x.where(0, 399, 4), 0);
            Check.due("on there", x.roll(2, 19, 9), 1);
            Check.due("not known to be struck", x.roll(2, 20, 8), 1);
            Check.due("struck", x.roll(2, 20, 9), 0);
            Check.due("it is there all the same", x.where(0, 20, 9), 2);
        }
    }

    /** "alike letters place by place (4), HOUSE, AGE not more than 2 apart (1 each); 6 in all". */
    private static void alike() {
        FirstPolls x = land();
        x.name(0, 5, 50, 0, Check.letters("bbbb"), 0);
        String[] letters = {"cbbb", "bcbb", "bbcb", "bbbc", "bbbb", "cccc"};
        int[] wants = {5, 5, 5, 5, 6, 2};
        for (int i = 0; i < letters.length; i++) {
            x.name(1, 5, 50, 0, Check.letters(letters[i]), 0);
            Check.due("like " + letters[i], x.like(0, i + 1), wants[i]);
            Check.due("like, turned round", x.like(i + 1, 0), wants[i]);
        }
        int[] ages = {47, 48, 50, 52, 53};
        int[] likes = {5, 6, 6, 6, 5};
        for (int i = 0; i < ages.length; i++) {
            int name = x.name(1, 5, ages[i], 0, Check.letters("bbbb"), 0);
            Check.due("like one of age " + ages[i], x.like(0, name), likes[i]);
            Check.due("like, turned round", x.like(name, 0), likes[i]);
        }
        int house = x.name(1, 6, 50, 3, Check.letters("bbbb"), 399);
        Check.due("another house, whatever its kind", x.like(0, house), 5);
        int none = x.name(0, 4, 120, 0, Check.letters("aaaa"), 0);
        Check.due("alike in nothing", x.like(0, none), 0);
        for (int i = 0; i <= none; i++) {
            Check.due("one and itself", x.like(i, i), NONE);
        }
        Check.due("none and itself", x.like(none + 1, none + 1), NONE);
    }

    /** "LIKE in 5 at least", "that are ON", "of different PLACES then". */
    private static void twiceAtItsEdges() {
        FirstPolls x = land();
        x.name(0, 1, 30, 0, Check.letters("bbbb"), 0);
        x.name(1, 2, 30, 0, Check.letters("bbbb"), 0);
        Check.due("alike in 5", x.twice(0, 0, NONE), 1);
        x = land();
        x.name(0, 1, 30, 0, Check.letters("bbbb"), 0);
        x.name(1, 2, 33, 0, Check.letters("bbbb"), 0);
        Check.due("alike in 4", x.twice(0, 0, NONE), 0);
        Check.due("no first of none", x.twice(0, 0, 0), NONE);
        x = land();
        x.name(0, 1, 30, 0, Check.letters("bbbb"), 0);
        x.name(0, 1, 30, 0, Check.letters("bbbb"), 0);
        Check.due("of one place", x.twice(5, 5, NONE), 0);
        x.moved(1, 1, 5, 5);
        Check.due("moved apart", x.twice(5, 5, NONE), 1);
        Check.due("not yet", x.twice(4, 5, NONE), 0);
        Check.due("not known yet", x.twice(5, 4, NONE), 0);
        x.moved(0, 1, 6, 6);
        Check.due("moved together again", x.twice(6, 6, NONE), 0);
        Check.due("not yet", x.twice(5, 6, NONE), 1);
        x = land();
        x.name(0, 1, 30, 0, Check.letters("bbbb"), 3);
        x.name(1, 1, 30, 0, Check.letters("bbbb"), 4);
        Check.due("one is not known", x.twice(0, 3, NONE), 0);
        Check.due("both are known", x.twice(0, 4, NONE), 1);
        x.off(0, 7, 0);
        Check.due("one is struck", x.twice(7, 4, NONE), 0);
        Check.due("not yet", x.twice(6, 4, NONE), 1);
    }

    /** "unless they are BARRED (told so: 40 pairs at most)": the last of the 40 counts as the first. */
    private static void barred() {
        FirstPolls x = land();
        for (int i = 0; i < 43; i++) {
            x.name(i == 0 ? 0 : 1, 1, 30, 0, ANNA, 0);
        }
        Check.due("42 pairs", x.twice(0, 0, NONE), 42);
        for (int i = 1; i <= 40; i++) {
            Check.due("the first pair", x.twice(0, 0, 0), i);
            Check.accepted(x, "apart", i % 2 == 0 ? x.apart(0, i) : x.apart(i, 0), i);
            Check.due("pairs left", x.twice(0, 0, NONE), 42 - i);
        }
        Check.refused(x, "the 41st", x.apart(0, 41), -5);
        Check.due("it is not barred", x.twice(0, 0, NONE), 2);
        Check.due("it is not barred", x.twice(0, 0, 0), 41);
        Check.due("the last pair", x.twice(0, 0, 1), 42);
        Check.due("no pair behind it", x.twice(0, 0, 2), NONE);
        x.image(0);
        x.back(0);
        Check.due("an image keeps them", x.twice(0, 0, NONE), 2);
    }

    public static void main(String[] args) {
        letters();
        theLastOnes();
        bytesOfARow();
        rowsThatBreakOff();
        theLongestRow();
        rowsAsKnown();
        struck();
        moved();
        struckAndMoved();
        alike();
        twiceAtItsEdges();
        barred();
        Check.close("NamesEdgesTest");
    }
}
