/** Promises 20 to 32: booths on paper, boxes and hands, papers and what a booth tells. */
public final class BoothsTest {
    private static final int NONE = FirstPolls.NONE;
    private static final int ANNA = Check.letters("anna");

    private static void promise20() {
        FirstPolls x = new FirstPolls();
        Check.refused(x, "wish", x.wish(0), -2);
        for (int i = 0; i < 9; i++) {
            x.place(0, i, 0);
        }
        Check.refused(x, "wish", x.wish(-1), -2);
        Check.refused(x, "wish", x.wish(9), -2);
        for (int i = 0; i < 7; i++) {
            Check.accepted(x, "wish", x.wish(8 - i), i + 1);
        }
        Check.refused(x, "wish twice ahead of no room", x.wish(8), -4);
        Check.refused(x, "wish with no room", x.wish(0), -5);
        Check.refused(x, "wish -2 ahead of -5", x.wish(9), -2);
        Check.due("wishes", x.all(7), 7);
    }

    private static void promise21() {
        FirstPolls x = new FirstPolls();
        Check.due("clear of none", x.clear(), 0);
        x.place(0, 0, 0);
        x.place(0, 50, 0);
        x.wish(0);
        x.wish(1);
        x.span(1, 0, 1);
        x.wish(1);
        Check.due("clear", x.clear(), 2);
        Check.due("wishes", x.all(7), 0);
        Check.due("clear leaves the status", x.status(), -4);
        x.wish(0);
        x.wish(1);
        Check.due("spans are none", x.way(0, 100), 2);
    }

    /** Places in a row, ten apart, with so many names each. */
    private static FirstPolls rowOf(String orders, int... names) {
        FirstPolls x = new FirstPolls();
        Check.orders(x, 0, orders);
        for (int i = 0; i < names.length; i++) {
            x.place(0, 10 * i, 0);
            for (int j = 0; j < names[i]; j++) {
                x.name(i, j, 30, 0, ANNA, 0);
            }
            x.wish(i);
        }
        return x;
    }

    private static void row(FirstPolls x, int sum, int... row) {
        Check.due("led(NONE)", x.led(NONE), sum);
        for (int i = 0; i < row.length; i++) {
            Check.due("led(" + i + ")", x.led(i), row[i]);
        }
        Check.due("led beyond", x.led(row.length), NONE);
        Check.due("led below", x.led(-2), NONE);
    }

    private static void promise22And23() {
        FirstPolls x = rowOf("on;far 10", 1, 1, 1, 1, 1);
        Check.due("fewest, then nearest, then the lowest bits", x.booths(0, 0), 0b01001);
        row(x, 30, 0, 0, 3, 3, 3);
        x = rowOf("on", 1, 1, 1);
        Check.due("the middle one", x.booths(0, 0), 0b010);
        row(x, 20, 1, 1, 1);
        x = rowOf("on", 1, 1, 1, 1);
        Check.due("of alike ones the lowest bits", x.booths(0, 0), 0b0010);
        x = rowOf("on;most 3 if place=0;most 2 if place>0", 2, 1, 1, 1);
        Check.due("most of its own place", x.booths(0, 0), 0b0101);
        row(x, 20, 0, 0, 2, 2);
        x = rowOf("on;most 1", 2, 0);
        Check.due("a place is whole", x.booths(0, 0), NONE);
        Check.due("no latest yet", x.led(NONE), NONE);
        Check.due("no latest yet", x.led(0), NONE);
        x = rowOf("on;most 2;far 100-100*place", 2, 2, 0);
        Check.due("far is of the place that is led", x.booths(0, 0), 0b110);
        row(x, 20, 2, 1, 2);
    }

    private static void farOfThePlace() {
        FirstPolls x = rowOf("on;far 10;far 0 if place=1;most 5", 1, 1, 1);
        Check.due("each by its own far", x.booths(0, 0), 0b010);
        row(x, 20, 1, 1, 1);
        Check.due("only place 1 can't go", x.judge(0b101, 0, 0), NONE);
        x = rowOf("on;most 2", 1, 1, 1, 1);
        Check.due("two and two", x.booths(0, 0), 0b0101);
        row(x, 20, 0, 0, 2, 2);
        x = rowOf("on;most 2", 2, 1, 1, 2);
        Check.due("three", x.booths(0, 0), 0b1011);
        row(x, 10, 0, 1, 1, 3);
        FirstPolls y = new FirstPolls();
        Check.orders(y, 0, "on;most 2;off if place=9");
        for (int i = 0; i < 4; i++) {
            y.place(0, 5, 5);
            y.name(i, 0, 30, 0, ANNA, 0);
            y.wish(3 - i > 0 ? i : 3);
        }
        Check.due("all at one place", y.booths(0, 0), 0b0011);
        row(y, 0, 0, 0, 1, 1);
        Check.due("no names ahead of known", y.booths(0, 0), 3);
    }

    private static void longWays() {
        FirstPolls x = new FirstPolls();
        Check.orders(x, 0, "on;most 2;far 198;far 0 if place=2");
        int[][] at = {{0, 0}, {99, 99}, {0, 99}, {99, 0}, {0, 0}, {99, 99}, {50, 50}};
        for (int i = 0; i < at.length; i++) {
            x.place(0, at[i][0], at[i][1]);
            x.name(i, 0, 30, 0, ANNA, 0);
            x.wish(i);
        }
        Check.due("four of seven", x.booths(0, 0), 0b0001111);
        row(x, 99, 0, 1, 2, 3, 0, 1, 2);
        Check.due("far ways", x.judge(0b1010101, 0, 0), 296);
        Check.due("too few for most", x.judge(0b0000111, 0, 0), NONE);
        Check.due("without the one that must be", x.judge(0b1111011, 0, 0), NONE);
    }

    private static void latestBooths() {
        FirstPolls x = rowOf("on;off if day>5;most 1 if day=3;far 0 if day=3", 2, 1);
        Check.due("booths", x.booths(0, 0), 0b01);
        Check.due("can't be", x.booths(3, 0), NONE);
        row(x, 10, 0, 0);
        Check.due("no day", x.booths(400, 0), NONE);
        Check.due("no day", x.booths(0, -1), NONE);
        row(x, 10, 0, 0);
        x.clear();
        row(x, 10, 0, 0);
        x.image(0);
        Check.due("booths of no wish", x.booths(0, 0), 0);
        row(x, 0);
        x.back(0);
        row(x, 0);
        FirstPolls y = new FirstPolls();
        y.image(1);
        y.place(0, 0, 0);
        y.place(0, 9, 0);
        y.wish(0);
        y.wish(1);
        Check.due("booths", y.booths(0, 0), 1);
        y.back(1);
        Check.due("wishes stay", y.all(7), 2);
        Check.due("a place is there no more", y.booths(0, 0), NONE);
        Check.due("a place is there no more", y.judge(1, 0, 0), NONE);
        Check.due("a place is there no more", y.way(0, 0), NONE);
        row(y, 9, 0, 0);
        y.place(0, 1, 1);
        Check.due("another place is there no more", y.booths(0, 0), NONE);
        Check.due("another place is there no more", y.way(0, 0), NONE);
        y.place(0, 2, 2);
        Check.due("they are there again", y.booths(0, 0), 1);
        row(y, 2, 0, 0);
    }

    private static void promise24() {
        FirstPolls x = rowOf("on;far 10;most 3", 1, 1, 1);
        Check.due("judge", x.judge(0b010, 0, 0), 20);
        Check.due("judge", x.judge(0b111, 0, 0), 0);
        Check.due("judge", x.judge(0b101, 0, 0), 10);
        Check.due("judge too far", x.judge(0b001, 0, 0), NONE);
        Check.due("judge none", x.judge(0, 0, 0), NONE);
        Check.due("judge bits beyond", x.judge(8, 0, 0), NONE);
        Check.due("judge bits below", x.judge(-1, 0, 0), NONE);
        Check.due("judge no day", x.judge(7, 400, 0), NONE);
        Check.due("judge no day", x.judge(7, 0, 400), NONE);
        Check.due("judge keeps nothing", x.led(NONE), NONE);
        x.clear();
        Check.due("judge of no wish", x.judge(0, 0, 0), 0);
        x = rowOf("on;most 4", 3, 2, 1, 1);
        Check.due("judge where nearest won't do", x.judge(0b0110, 0, 0), 30);
    }

    private static void promise25And26() {
        FirstPolls x = new FirstPolls();
        Check.refused(x, "booth", x.booth(0), -2);
        x.place(0, 0, 0);
        Check.refused(x, "booth", x.booth(-1), -2);
        Check.refused(x, "box", x.box(0, 0), -2);
        for (int i = 0; i < 20; i++) {
            Check.accepted(x, "booth", x.booth(0), i);
        }
        Check.refused(x, "booth 20", x.booth(0), -5);
        Check.refused(x, "booth -2 ahead of -5", x.booth(1), -2);
        Check.refused(x, "box", x.box(20, -1), -1);
        Check.refused(x, "box", x.box(0, 100_000), -1);
        Check.refused(x, "box", x.box(20, 0), -2);
        for (int i = 0; i < 40; i++) {
            Check.accepted(x, "box", x.box(i % 20, 99_999), i);
        }
        Check.refused(x, "box 40", x.box(0, 0), -5);
        Check.due("booths", x.all(3), 20);
        Check.due("boxes", x.all(4), 40);
    }

    private static FirstPolls boxes() {
        FirstPolls x = new FirstPolls();
        x.place(0, 0, 0);
        x.place(1, 5, 5);
        x.booth(0);
        x.booth(1);
        x.box(0, 11);
        x.box(0, 22);
        x.box(1, 33);
        return x;
    }

    private static void promise27And28() {
        FirstPolls x = boxes();
        int[][] wrong = {{-1, 0, 0, 0}, {20, 0, 0, 0}, {0, -1, 0, 0}, {0, 400, 0, 0}, {0, 0, -1, 0},
            {0, 0, 100_000, 0}, {0, 0, 0, -1}, {0, 0, 0, 400}};
        for (int[] w : wrong) {
            Check.refused(x, "hand", x.hand(0, w[0], w[1], w[2], w[3]), -1);
            Check.refused(x, "hand -1 ahead of -2", x.hand(9, w[0], w[1], w[2], w[3]), -1);
        }
        Check.refused(x, "hand", x.hand(3, 0, 0, 0, 0), -2);
        Check.accepted(x, "hand", x.hand(0, 5, 10, 11, 0), 1);
        Check.accepted(x, "hand", x.hand(1, 6, 10, 22, 0), 2);
        Check.accepted(x, "hand", x.hand(0, 7, 8, 11, 0), 3);
        Check.accepted(x, "hand", x.hand(0, 8, 10, 11, 4), 4);
        Check.due("held ahead of any", x.held(0, 7, 9), NONE);
        Check.due("held", x.held(0, 8, 9), 7);
        Check.due("held, not told last but of the latest day", x.held(0, 10, 3), 5);
        Check.due("held, of alike days told last", x.held(0, 10, 4), 8);
        Check.due("held of another box", x.held(1, 399, 399), 6);
        Check.due("held of a box never handed", x.held(2, 399, 399), NONE);
        Check.due("held of no box", x.held(3, 0, 0), NONE);
        Check.due("held on no day", x.held(0, 400, 0), NONE);
        Check.due("held on no day", x.held(0, 10, -1), NONE);
        for (int i = 5; i <= 200; i++) {
            Check.accepted(x, "hand", x.hand(2, 19, 399, 99_999, 399), i);
        }
        Check.refused(x, "hand 201", x.hand(2, 0, 0, 0, 0), -5);
        Check.due("handed", x.all(5), 200);
    }

    private static void promise29() {
        FirstPolls x = boxes();
        Check.due("not broken", x.broken(0, 0, 0), NONE);
        x.hand(0, 1, 20, 12, 3);
        x.hand(0, 2, 10, 11, 5);
        x.hand(0, 3, 15, 13, 7);
        x.hand(0, 4, 15, 14, 7);
        x.hand(0, 5, 15, 11, 0);
        x.hand(1, 9, 14, 22, 0);
        for (int what = 0; what < 3; what++) {
            Check.due("broken as not known", x.broken(0, 2, what), NONE);
        }
        Check.due("broken hand", x.broken(0, 3, 0), 1);
        Check.due("broken ahead", x.broken(0, 3, 1), 5);
        Check.due("broken day", x.broken(0, 3, 2), 20);
        Check.due("broken ahead", x.broken(0, 5, 1), 5);
        Check.due("broken hand", x.broken(0, 7, 0), 3);
        Check.due("broken ahead by day", x.broken(0, 7, 1), 2);
        Check.due("broken day", x.broken(0, 7, 2), 15);
        Check.due("another box is not broken", x.broken(1, 399, 0), NONE);
        x.hand(2, 6, 1, 0, 0);
        Check.due("broken, the first", x.broken(2, 0, 0), 6);
        Check.due("none ahead of the first", x.broken(2, 0, 1), NONE);
        Check.due("broken day", x.broken(2, 0, 2), 1);
        Check.due("no such what", x.broken(2, 0, 3), NONE);
        Check.due("no such what", x.broken(2, 0, -1), NONE);
        Check.due("no such box", x.broken(3, 0, 0), NONE);
        Check.due("no such day", x.broken(2, 400, 0), NONE);
        FirstPolls y = boxes();
        y.hand(0, 3, 5, 11, 0);
        y.hand(0, 4, 5, 12, 0);
        Check.due("of the same day as told", y.broken(0, 0, 1), 3);
        y.hand(1, 5, 15, 22, 0);
        y.hand(1, 6, 10, 22, 0);
        y.hand(1, 7, 20, 23, 0);
        y.hand(1, 8, 12, 22, 0);
        y.hand(1, 9, 30, 22, 0);
        Check.due("the one just ahead, told first", y.broken(1, 0, 1), 5);
    }

    private static void promise30() {
        FirstPolls x = boxes();
        int[][] wrong = {{-1, 0, 0}, {4, 0, 0}, {0, -1, 0}, {0, 100_001, 0}, {0, 0, -1}, {0, 0, 400}};
        for (int[] w : wrong) {
            Check.refused(x, "paper", x.paper(0, w[0], w[1], w[2]), -1);
            Check.refused(x, "paper -1 ahead of -2", x.paper(5, w[0], w[1], w[2]), -1);
        }
        Check.refused(x, "paper", x.paper(2, 0, 0, 0), -2);
        for (int i = 1; i <= 120; i++) {
            Check.accepted(x, "paper", x.paper(i % 2, 3, 100_000, 399), i);
        }
        Check.refused(x, "paper 121", x.paper(0, 0, 0, 0), -5);
    }

    private static void promise31() {
        FirstPolls x = boxes();
        int[][] wrong = {{-1, 0, 0, 0}, {8, 0, 0, 0}, {0, -1, 0, 0}, {0, 10, 0, 0}, {0, 0, -1, 0},
            {0, 0, 10_001, 0}, {0, 0, 0, -1}, {0, 0, 0, 400}};
        for (int[] w : wrong) {
            Check.refused(x, "count", x.count(0, w[0], w[1], w[2], w[3]), -1);
            Check.refused(x, "count -1 ahead of -2", x.count(5, w[0], w[1], w[2], w[3]), -1);
        }
        Check.refused(x, "count", x.count(3, 0, 0, 0, 0), -2);
        for (int i = 0; i < 200; i++) {
            Check.accepted(x, "count", x.count(i % 3, 7, 9, 10_000, 399), i);
        }
        Check.refused(x, "count 200", x.count(0, 0, 0, 0, 0), -5);
        Check.due("tellings", x.all(6), 200);
    }

    private static void promise32() {
        FirstPolls x = boxes();
        for (int what = 0; what < 9; what++) {
            Check.due("tells of nothing told", x.tells(0, 0, 0, what), what == 6 ? 1 : 0);
        }
        x.paper(0, 0, 50, 0);
        x.paper(0, 1, 30, 0);
        x.paper(0, 2, 4, 0);
        x.paper(0, 3, 20, 0);
        x.paper(0, 1, 31, 5);
        x.paper(0, 1, 29, 3);
        x.paper(1, 1, 99, 0);
        x.count(0, 1, 0, 10, 0);
        x.count(1, 1, 0, 9, 0);
        x.count(1, 2, 1, 7, 0);
        x.count(0, 1, 0, 12, 6);
        x.count(0, 1, 0, 11, 4);
        x.count(2, 1, 0, 77, 0);
        int[] want = {50, 30, 4, 20, 26, 0, 1, 0, 26};
        for (int what = 0; what < 9; what++) {
            Check.due("tells " + what, x.tells(0, 0, 0, what), want[what]);
        }
        Check.due("the latest that is known", x.tells(0, 0, 3, 1), 29);
        Check.due("the latest that is told", x.tells(0, 0, 399, 1), 29);
        Check.due("put, told anew", x.tells(0, 0, 4, 4), 27);
        Check.due("put, told last", x.tells(0, 0, 6, 4), 27);
        Check.due("lost below 0", x.tells(0, 0, 6, 5), -2);
        Check.due("they don't agree", x.tells(0, 0, 6, 6), 0);
        Check.due("of another booth", x.tells(1, 0, 0, 5), 22);
        Check.orders(x, 2, "void 1 if lost<0;void 0 if place=1 and seat=1;again if given=99;"
                + "again if papers=50 and put=27 and spoilt=4 and given=29 and names=0;void 7 if 1/0=0");
        Check.due("valid", x.tells(0, 1, 6, 8), 27);
        Check.due("valid without what is void", x.tells(0, 2, 6, 8), 20);
        Check.due("void does not hold", x.tells(0, 2, 0, 8), 26);
        Check.due("put all the same", x.tells(0, 2, 6, 4), 27);
        Check.due("void in the other booth", x.tells(1, 2, 0, 8), 0);
        Check.due("again", x.tells(1, 2, 0, 7), 1);
        Check.due("again", x.tells(0, 2, 6, 7), 1);
        Check.due("not again", x.tells(0, 2, 0, 7), 0);
        Check.due("not yet again", x.tells(1, 1, 0, 7), 0);
        int[][] wrong = {{2, 0, 0, 0}, {-1, 0, 0, 0}, {0, 400, 0, 0}, {0, 0, -1, 0}, {0, 0, 0, 9},
            {0, 0, 0, -1}};
        for (int[] w : wrong) {
            Check.due("nothing", x.tells(w[0], w[1], w[2], w[3]), Check.NOTHING);
        }
    }

    private static void brokenSeals() {
        FirstPolls x = boxes();
        x.place(0, 7, 7);
        x.name(0, 0, 30, 0, ANNA, 0);
        Check.orders(x, 0, "on;again if broken and names=1");
        x.hand(1, 3, 300, 99, 8);
        Check.due("no seal known to be otherwise", x.tells(0, 0, 7, 7), 0);
        Check.due("a seal of any of its boxes, on any day", x.tells(0, 0, 8, 7), 1);
        Check.due("not of another booth's", x.tells(1, 0, 8, 7), 0);
        x.moved(0, 1, 5, 0);
        Check.due("names of its place of then", x.tells(0, 5, 8, 7), 0);
        Check.due("names of its place of then", x.tells(0, 4, 8, 7), 1);
    }

    public static void main(String[] args) {
        promise20();
        promise21();
        promise22And23();
        farOfThePlace();
        longWays();
        latestBooths();
        promise24();
        promise25And26();
        promise27And28();
        promise29();
        promise30();
        promise31();
        promise32();
        brokenSeals();
        Check.close("BoothsTest");
    }
}
