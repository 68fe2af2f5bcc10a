/** Terms III and IV, sentence by sentence, at their edges: booths on paper, boxes and hands. */
public final class BoothsEdgesTest {
    private static final int NONE = FirstPolls.NONE;
    private static final int ANNA = Check.letters("anna");

    /** Wished places at x with so many names each. */
    private static FirstPolls wished(String orders, int[] xs, int[] names) {
        FirstPolls x = new FirstPolls();
        Check.due("order of " + orders, Check.orders(x, 0, orders), 0);
        for (int i = 0; i < xs.length; i++) {
            x.place(i % 6, xs[i], 50);
            for (int j = 0; j < names[i]; j++) {
                x.name(i, j, 30, 0, ANNA, 0);
            }
            x.wish(i);
        }
        return x;
    }

    private static void row(FirstPolls x, int sum, int... row) {
        Check.due("led(NONE)", x.led(NONE), sum);
        for (int i = 0; i < row.length; i++) {
            Check.due("led(" + i + ")", x.led(i), row[i]);
        }
        Check.due("led beyond", x.led(row.length), NONE);
    }

    /** "for WISHED PLACES, 7 at most": from none to seven, each with its own BOOTH. */
    private static void eachItsOwn() {
        for (int n = 0; n <= 7; n++) {
            int[] xs = new int[n];
            int[] row = new int[n];
            for (int i = 0; i < n; i++) {
                xs[i] = 99 - i;
                row[i] = i;
            }
            FirstPolls x = wished("on;far 0", xs, new int[n]);
            Check.due("all of " + n, x.booths(0, 0), (1 << n) - 1);
            row(x, 0, row);
            Check.due("judge all", x.judge((1 << n) - 1, 0, 0), 0);
            for (int i = 0; i < n; i++) {
                Check.due("judge all but one", x.judge((1 << n) - 1 - (1 << i), 0, 0), NONE);
            }
            Check.due("a wish that is not there", x.judge(1 << n, 0, 0), NONE);
            Check.due("all and one that is not there", x.judge((2 << n) - 1, 0, 0), NONE);
        }
        FirstPolls x = wished("on", new int[] {0, 1, 2, 3, 4, 5, 6}, new int[7]);
        x.place(0, 7, 7);
        Check.refused(x, "an eighth", x.wish(7), -5);
        Check.due("seven", x.all(7), 7);
        Check.due("clear", x.clear(), 7);
        Check.accepted(x, "then there is room", x.wish(7), 1);
    }

    /** "not farther than that PLACE's FAR (x and y apart, together)". */
    private static void farAtItsEdge() {
        int[][] ways = {{0, 0, 3, 4}, {3, 4, 0, 0}, {0, 4, 3, 0}, {3, 0, 0, 4}, {0, 0, 7, 0},
            {0, 7, 0, 0}};
        for (int[] at : ways) {
            for (int far = 6; far <= 8; far++) {
                FirstPolls x = new FirstPolls();
                Check.orders(x, 0, "far " + far);
                x.place(0, at[0], at[1]);
                x.place(0, at[2], at[3]);
                x.wish(0);
                x.wish(1);
                Check.due("booths", x.booths(0, 0), far < 7 ? 3 : 1);
                Check.due("led", x.led(NONE), far < 7 ? 0 : 7);
                Check.due("judge", x.judge(2, 0, 0), far < 7 ? NONE : 7);
            }
        }
        FirstPolls x = new FirstPolls();
        x.place(0, 0, 0);
        x.place(5, 99, 99);
        x.wish(0);
        x.wish(1);
        Check.due("as far as can be, without a FAR", x.booths(0, 0), 1);
        Check.due("the longest way", x.led(NONE), 198);
        Check.orders(x, 0, "far 0-1");
        Check.due("a FAR below 0 is 0", x.booths(0, 0), 3);
    }

    /** FAR is of the PLACE that is led, MOST of the BOOTH's own PLACE. */
    private static void whoseRules() {
        int[] xs = {0, 5};
        FirstPolls x = wished("on;far 4 if place=0", xs, new int[] {1, 1});
        Check.due("only place 1 can go", x.judge(1, 0, 0), 5);
        Check.due("place 0 can't", x.judge(2, 0, 0), NONE);
        x = wished("on;most 1 if place=0", xs, new int[] {1, 1});
        Check.due("place 0 can't have both", x.judge(1, 0, 0), NONE);
        Check.due("place 1 can", x.judge(2, 0, 0), 5);
        Check.due("so it is the one", x.booths(0, 0), 2);
        row(x, 5, 1, 1);
    }

    /** "no BOOTH more NAMES ON than the MOST of its own PLACE", "each WISHED PLACE, whole". */
    private static void mostAtItsEdge() {
        int[] xs = {0, 10, 20};
        for (int most = 0; most <= 7; most++) {
            FirstPolls x = wished("on;most " + most, xs, new int[] {3, 1, 2});
            int[] bits = {NONE, NONE, NONE, 3, 3, 3, 2, 2};
            int[] sums = {NONE, NONE, NONE, 10, 10, 10, 20, 20};
            Check.due("booths by most " + most, x.booths(0, 0), bits[most]);
            Check.due("sum by most " + most, x.led(NONE), sums[most]);
            Check.due("one booth", x.judge(2, 0, 0), most < 6 ? NONE : 20);
            Check.due("each its own", x.judge(7, 0, 0), most < 3 ? NONE : 0);
        }
        FirstPolls x = wished("on;most 0", xs, new int[3]);
        Check.due("a MOST of 0 is enough for none", x.booths(0, 0), 2);
        x = wished("on;most 0-5;far 10", xs, new int[3]);
        Check.due("a MOST below 0 is 0", x.booths(0, 0), 2);
        x = wished("on", new int[] {1, 2, 3}, new int[] {66, 67, 67});
        Check.due("without a MOST there is room for all", x.booths(0, 0), 2);
        x = wished("on;most 199", new int[] {1, 2, 3}, new int[] {66, 67, 67});
        Check.due("one too few for all 200", x.booths(0, 0), 3);
    }

    /** "NAMES ON" as known on the DAY, "whole": none of a PLACE may go elsewhere. */
    private static void namesAsKnown() {
        FirstPolls x = wished("on;off if day=9;most 2", new int[] {0, 5}, new int[] {2, 0});
        x.name(1, 0, 30, 0, ANNA, 4);
        x.off(0, 7, 6);
        Check.due("not known yet", x.booths(0, 3), 1);
        Check.due("known", x.booths(0, 4), 3);
        Check.due("struck, but not known so", x.booths(7, 5), 3);
        Check.due("struck", x.booths(7, 6), 1);
        Check.due("nobody is on", x.booths(9, 4), 1);
        x.moved(2, 0, 20, 20);
        Check.due("moved", x.judge(3, 20, 5), 0);
        Check.due("three in one place that takes two", x.judge(3, 20, 20), 0);
        Check.due("one is struck there, so they can", x.booths(20, 20), 1);
        x.name(0, 0, 30, 0, ANNA, 0);
        Check.due("now they can't", x.booths(20, 20), NONE);
        Check.due("the latest stays", x.led(NONE), 5);
    }

    /** "the fewest BOOTHS; of alike ones ... the least sum of ways ...; then the lowest bits". */
    private static void whichSet() {
        FirstPolls x = wished("on;most 5", new int[] {0, 1, 98, 99}, new int[] {1, 1, 1, 1});
        Check.due("fewer go before nearer", Integer.bitCount(x.booths(0, 0)), 1);
        Check.due("and far ways are gone", x.led(NONE), 196);
        Check.due("of alike ones the lowest", x.booths(0, 0), 0b0010);
        x = wished("on;most 2", new int[] {0, 1, 98, 99}, new int[] {1, 1, 1, 1});
        Check.due("two", x.booths(0, 0), 0b0101);
        row(x, 2, 0, 0, 2, 2);
        x = wished("on;most 2", new int[] {99, 0, 98, 1}, new int[] {1, 1, 1, 1});
        Check.due("the lowest bits, not the first places", x.booths(0, 0), 0b0011);
        row(x, 2, 0, 1, 0, 1);
        x = wished("on", new int[] {5, 5, 5, 5, 5, 5, 5}, new int[7]);
        Check.due("all at one place", x.booths(0, 0), 1);
        row(x, 0, 0, 0, 0, 0, 0, 0, 0);
    }

    /** "of alike ones the first as rows": with seven WISHES, wherever the first is led. */
    private static void firstRows() {
        int[] same = {5, 5, 5, 5, 5, 5, 5};
        FirstPolls x = wished("on;most 0;most 6 if place=6;most 1 if place=5", same,
                new int[] {1, 1, 1, 1, 1, 1, 1});
        Check.due("the last two", x.booths(0, 0), 0b1100000);
        row(x, 0, 5, 6, 6, 6, 6, 6, 6);
        x = wished("on;most 0;most 7 if place=6", same, new int[] {1, 1, 1, 1, 1, 1, 1});
        Check.due("the last alone", x.booths(0, 0), 0b1000000);
        row(x, 0, 6, 6, 6, 6, 6, 6, 6);
        x = wished("on;most 4", same, new int[] {2, 2, 2, 2, 2, 2, 2});
        Check.due("four", x.booths(0, 0), 0b0001111);
        row(x, 0, 0, 0, 1, 1, 2, 2, 3);
        x = wished("on;most 3 if place<2;most 0 if place>1", same, new int[] {2, 2, 1, 1, 0, 0, 0});
        Check.due("two", x.booths(0, 0), 0b0000011);
        row(x, 0, 0, 1, 0, 1, 0, 0, 0);
        x = wished("on;most 4", new int[] {0, 10, 20, 30}, new int[] {2, 2, 2, 2});
        Check.due("judge of three", x.judge(0b0111, 0, 0), 10);
        Check.due("judge of a set that has one too many", x.judge(0b1111, 0, 0), 0);
        x = wished("on;most 3", new int[] {10, 0, 20}, new int[] {1, 2, 2});
        Check.due("the middle one may go either way", x.booths(0, 0), 0b011);
        row(x, 10, 0, 1, 0);
        x = wished("on;most 3;most 0 if place=0", new int[] {10, 20, 11}, new int[] {3, 1, 1});
        Check.due("the first alone has the last", x.booths(0, 0), 0b110);
        row(x, 10, 2, 1, 1);
    }

    /** "judge: with just these BOOTHS": some of which nobody need have. */
    private static void judges() {
        FirstPolls x = wished("on;most 3", new int[] {0, 10, 20, 30, 40, 50, 60},
                new int[] {1, 1, 1, 1, 1, 1, 1});
        Check.due("all seven", x.judge(127, 0, 0), 0);
        Check.due("three", x.judge(0b0101001, 0, 0), 40);
        Check.due("three, far from all", x.judge(0b0000111, 0, 0), 120);
        Check.due("two can't have seven", x.judge(0b0100001, 0, 0), NONE);
        Check.due("the fewest", x.booths(0, 0), 0b0100101);
        Check.due("their ways", x.led(NONE), 40);
        x = wished("on;most 0 if place=0", new int[] {0, 0}, new int[] {1, 1});
        Check.due("one that nobody has", x.judge(0b11, 0, 0), 0);
        Check.due("the other alone", x.judge(0b10, 0, 0), 0);
        Check.due("that one alone", x.judge(0b01, 0, 0), NONE);
    }

    /** "(also if a WISHED PLACE is not there any more; the latest stays)": any of them. */
    private static void placesThatAreGone() {
        for (int gone = 0; gone < 3; gone++) {
            FirstPolls x = new FirstPolls();
            x.place(0, 0, 0);
            x.place(0, 5, 0);
            x.image(0);
            x.place(0, 9, 0);
            for (int wish = 0; wish < 3; wish++) {
                x.wish(wish == gone ? 2 : wish < gone ? wish : wish - 1);
            }
            Check.due("booths", x.booths(0, 0) > 0 ? 1 : 0, 1);
            Check.due("way", x.way(0, 0), 3);
            int leg = x.leg(2, 1);
            int sum = x.led(NONE);
            x.back(0);
            Check.due("booths", x.booths(0, 0), NONE);
            Check.due("judge", x.judge(7, 0, 0), NONE);
            Check.due("judge", x.judge(1, 0, 0), NONE);
            Check.due("way", x.way(0, 0), NONE);
            Check.due("the latest booths stay", x.led(NONE), sum);
            Check.due("the latest way stays", x.leg(2, 1), leg);
            Check.due("the wishes stay", x.all(7), 3);
            Check.refused(x, "a wish of what is not there", x.wish(2), -2);
            Check.accepted(x, "a span of it", x.span(gone, 0, 9), 0);
            x.place(3, 99, 99);
            Check.refused(x, "it is wished still", x.wish(2), -4);
            Check.due("there is another place of that number", x.judge(7, 0, 0), 0);
            x.back(0);
            Check.due("clear", x.clear(), 3);
            Check.due("booths of no wish", x.booths(0, 0), 0);
            Check.due("way of no wish", x.way(0, 0), 0);
        }
    }

    /** "BOOTHS 0 .. 19", "BOXES 0 .. 39", "HANDED, 200 at most": the last of them work too. */
    private static void theLastOnes() {
        FirstPolls x = new FirstPolls();
        for (int i = 0; i < 16; i++) {
            x.place(i % 6, i, i);
        }
        Check.orders(x, 0, "again if broken");
        for (int i = 0; i < 20; i++) {
            Check.accepted(x, "booth", x.booth(15 - i % 16), i);
        }
        for (int i = 0; i < 40; i++) {
            Check.accepted(x, "box", x.box(i / 2, 99_999 - i), i);
        }
        for (int i = 0; i < 199; i++) {
            Check.accepted(x, "hand", x.hand(i % 40, i % 20, i, 99_999 - i % 40, 0), i + 1);
        }
        for (int i = 0; i < 40; i++) {
            Check.due("held", x.held(i, 399, 399), i < 39 ? (160 + i) % 20 : (120 + i) % 20);
            Check.due("not broken", x.broken(i, 399, 0), NONE);
        }
        Check.due("no booth is broken", x.tells(19, 0, 399, 7), 0);
        Check.accepted(x, "the last hand", x.hand(39, 19, 399, 0, 399), 200);
        Check.refused(x, "one more", x.hand(39, 19, 399, 0, 399), -5);
        Check.due("held", x.held(39, 399, 399), 19);
        Check.due("held as known ahead of it", x.held(39, 399, 398), 19);
        Check.due("held ahead of its day", x.held(39, 398, 399), 19);
        Check.due("broken", x.broken(39, 399, 0), 19);
        Check.due("broken, the one ahead", x.broken(39, 399, 1), 159 % 20);
        Check.due("broken on its day", x.broken(39, 399, 2), 399);
        Check.due("not known to be broken", x.broken(39, 398, 2), NONE);
        Check.due("the last booth is broken", x.tells(19, 0, 399, 7), 1);
        Check.due("no other one is", x.tells(18, 0, 399, 7), 0);
    }

    /** "with a SEAL (0 .. 99,999)": BROKEN by any other one, and by no alike one. */
    private static void seals() {
        int[] seals = {0, 1, 34_463, 65_536, 99_998, 99_999};
        for (int own : seals) {
            for (int told : seals) {
                FirstPolls x = new FirstPolls();
                x.place(0, 0, 0);
                x.booth(0);
                x.box(0, own);
                x.hand(0, 5, 3, told, 0);
                Check.due("broken", x.broken(0, 0, 0), own == told ? NONE : 5);
                Check.due("broken on a day", x.broken(0, 0, 2), own == told ? NONE : 3);
            }
        }
    }

    private static FirstPolls boxes() {
        FirstPolls x = new FirstPolls();
        x.place(0, 0, 0);
        x.booth(0);
        x.booth(0);
        for (int i = 0; i < 4; i++) {
            x.box(i / 2, 11 * i);
        }
        return x;
    }

    /** "the HAND of the latest DAY not behind it, of alike ones told last; NONE without". */
    private static void whereItIs() {
        FirstPolls x = boxes();
        x.hand(1, 4, 0, 11, 0);
        x.hand(1, 5, 399, 11, 0);
        x.hand(1, 0, 10, 11, 0);
        x.hand(1, 7, 10, 11, 20);
        x.hand(1, 8, 10, 11, 10);
        x.hand(0, 9, 10, 0, 0);
        Check.due("on the first day", x.held(1, 0, 0), 4);
        Check.due("a day ahead", x.held(1, 9, 399), 4);
        Check.due("on the day, a hand of number 0", x.held(1, 10, 9), 0);
        Check.due("known later, told last", x.held(1, 10, 10), 8);
        Check.due("known latest, but not told last", x.held(1, 10, 20), 8);
        Check.due("a day ahead of the last", x.held(1, 398, 399), 8);
        Check.due("on the last day", x.held(1, 399, 0), 5);
        Check.due("ahead of any", x.held(0, 9, 399), NONE);
        Check.due("a box never handed", x.held(2, 399, 399), NONE);
        x = boxes();
        x.hand(3, 1, 0, 33, 1);
        Check.due("not known", x.held(3, 399, 0), NONE);
        Check.due("known", x.held(3, 0, 1), 1);
    }

    /** "the first HANDED of it (by DAY, then as told) of which the SEAL is another one". */
    private static void whereItWasBroken() {
        FirstPolls x = boxes();
        x.hand(1, 1, 30, 99, 0);
        x.hand(1, 2, 20, 98, 5);
        x.hand(1, 3, 20, 97, 5);
        x.hand(1, 4, 20, 11, 9);
        x.hand(1, 5, 0, 11, 7);
        x.hand(1, 6, 10, 96, 11);
        x.hand(0, 7, 1, 0, 0);
        int[] knowns = {0, 4, 5, 6, 7, 8, 9, 10, 11, 399};
        int[] hands = {1, 1, 2, 2, 2, 2, 2, 2, 6, 6};
        int[] aheads = {NONE, NONE, NONE, NONE, 5, 5, 5, 5, 5, 5};
        int[] days = {30, 30, 20, 20, 20, 20, 20, 20, 10, 10};
        for (int i = 0; i < knowns.length; i++) {
            Check.due("hand as known by " + knowns[i], x.broken(1, knowns[i], 0), hands[i]);
            Check.due("the one ahead as known", x.broken(1, knowns[i], 1), aheads[i]);
            Check.due("its day as known", x.broken(1, knowns[i], 2), days[i]);
        }
        x = boxes();
        x.hand(3, 0, 0, 0, 0);
        Check.due("a hand of number 0", x.broken(3, 0, 0), 0);
        Check.due("the first of all", x.broken(3, 0, 1), NONE);
        Check.due("on day 0", x.broken(3, 0, 2), 0);
        x.hand(3, 6, 0, 33, 0);
        Check.due("told behind it on the same day", x.broken(3, 0, 1), NONE);
        x = boxes();
        x.hand(3, 6, 4, 33, 0);
        x.hand(3, 0, 4, 33, 0);
        x.hand(3, 9, 4, 34, 0);
        x.hand(3, 7, 4, 33, 0);
        Check.due("the last told ahead of it on that day", x.broken(3, 0, 1), 0);
    }

    /** "broken: a BOX of it has a seal told otherwise": any BOX, any HANDED that is known. */
    private static void brokenBooths() {
        FirstPolls x = boxes();
        Check.orders(x, 0, "again if broken");
        for (int i = 0; i < 4; i++) {
            x.hand(i, 1, i, 11 * i, 0);
        }
        Check.due("all seals are right", x.tells(0, 399, 399, 7), 0);
        Check.due("all seals are right", x.tells(1, 399, 399, 7), 0);
        x.hand(3, 1, 300, 5, 9);
        Check.due("not known", x.tells(1, 399, 8, 7), 0);
        Check.due("known, of another booth", x.tells(0, 399, 9, 7), 0);
        Check.due("known", x.tells(1, 0, 9, 7), 1);
        Check.due("asked again as it was known", x.tells(1, 0, 8, 7), 0);
        x.hand(3, 1, 301, 33, 0);
        Check.due("a right one behind it does not mend it", x.tells(1, 399, 399, 7), 1);
    }

    public static void main(String[] args) {
        eachItsOwn();
        farAtItsEdge();
        whoseRules();
        mostAtItsEdge();
        namesAsKnown();
        whichSet();
        firstRows();
        judges();
        placesThatAreGone();
        theLastOnes();
        seals();
        whereItIs();
        whereItWasBroken();
        brokenBooths();
        Check.close("BoothsEdgesTest");
    }
}
