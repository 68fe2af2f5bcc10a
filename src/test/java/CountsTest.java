/** Promises 33 to 48: seats, joined booths, shares, the way, doors, seals, images, the rest. */
public final class CountsTest {
    private static final int NONE = FirstPolls.NONE;
    private static final int ANNA = Check.letters("anna");

    /** So many booths with a box each, all of a seat's one place, and orders. */
    private static FirstPolls seatOf(int booths, String orders) {
        FirstPolls x = new FirstPolls();
        x.place(2, 0, 0);
        if (!orders.isEmpty()) {
            Check.orders(x, 0, orders);
        }
        for (int i = 0; i < booths; i++) {
            x.booth(0);
            x.box(i, 5);
        }
        return x;
    }

    private static void promise33() {
        FirstPolls x = new FirstPolls();
        int[][] wrong = {{-1, 0}, {6, 0}, {0, -1}, {0, 8}};
        for (int[] w : wrong) {
            Check.refused(x, "keep", x.keep(w[0], w[1]), -1);
        }
        for (int seat = 0; seat < 6; seat++) {
            for (int symbol = 0; symbol < 8; symbol++) {
                Check.accepted(x, "keep", x.keep(seat, symbol), 0);
                Check.refused(x, "keep twice", x.keep(seat, symbol), -4);
            }
        }
    }

    private static void promise34() {
        FirstPolls x = seatOf(2, "void 4");
        x.place(3, 9, 9);
        x.booth(1);
        x.box(2, 0);
        for (int what = 0; what < 11; what++) {
            Check.due("seat of nothing", x.seat(2, 0, 0, what), what == 8 ? NONE : 0);
        }
        x.count(0, 1, 0, 10, 0);
        x.count(1, 1, 0, 5, 0);
        x.count(1, 6, 0, 12, 0);
        x.count(1, 6, 4, 100, 0);
        x.count(2, 0, 0, 99, 0);
        x.count(1, 7, 0, 15, 3);
        Check.due("sum", x.seat(2, 0, 0, 1), 15);
        Check.due("sum of the valid", x.seat(2, 0, 0, 6), 12);
        Check.due("sum of another seat's", x.seat(2, 0, 0, 0), 0);
        Check.due("who has it", x.seat(2, 0, 0, 8), 1);
        Check.due("margin", x.seat(2, 0, 0, 9), 3);
        Check.due("who has it, alike", x.seat(2, 0, 3, 8), NONE);
        Check.due("margin, alike", x.seat(2, 0, 3, 9), 0);
        Check.due("who has the other seat", x.seat(3, 0, 0, 8), 0);
        Check.due("margin over none", x.seat(3, 0, 0, 9), 99);
        x.keep(2, 6);
        Check.due("kept", x.seat(2, 0, 3, 8), 6);
        Check.due("kept, over none", x.seat(2, 0, 3, 9), 12);
        Check.due("kept, the sums stay", x.seat(2, 0, 0, 1), 15);
        x.keep(2, 7);
        Check.due("kept", x.seat(2, 0, 3, 8), 7);
        Check.due("kept, the next of those", x.seat(2, 0, 3, 9), 3);
        x.keep(3, 5);
        Check.due("kept for one without papers", x.seat(3, 0, 0, 8), NONE);
        Check.due("kept for one without papers", x.seat(3, 0, 0, 9), 0);
        int[][] wrong = {{6, 0, 0, 0}, {-1, 0, 0, 0}, {0, -1, 0, 0}, {0, 0, 400, 0}, {0, 0, 0, 11},
            {0, 0, 0, -1}};
        for (int[] w : wrong) {
            Check.due("nothing", x.seat(w[0], w[1], w[2], w[3]), Check.NOTHING);
        }
    }

    private static void hangs() {
        FirstPolls x = seatOf(3, "on;again if given>0");
        x.place(2, 5, 5);
        x.booth(1);
        x.box(3, 0);
        for (int i = 0; i < 4; i++) {
            x.name(i % 2, i, 30, 0, ANNA, 0);
        }
        Check.due("nothing is again", x.seat(2, 0, 0, 10), 0);
        x.paper(0, 1, 1, 0);
        Check.due("nobody has it", x.seat(2, 0, 0, 10), 1);
        x.count(0, 0, 0, 2, 0);
        Check.due("as many as the margin", x.seat(2, 0, 0, 10), 1);
        x.count(1, 0, 0, 1, 0);
        Check.due("fewer than the margin", x.seat(2, 0, 0, 10), 0);
        x.paper(1, 1, 1, 0);
        Check.due("each place once", x.seat(2, 0, 0, 10), 0);
        x.paper(3, 1, 1, 5);
        Check.due("not known", x.seat(2, 0, 4, 10), 0);
        Check.due("two places", x.seat(2, 0, 5, 10), 1);
        Check.due("not of another seat", x.seat(1, 0, 5, 10), 0);
    }

    private static void joined(FirstPolls x, int symbol, int[] sums, int[] many) {
        for (int i = 0; i < sums.length; i++) {
            Check.due("hidden sum of booth " + i, x.hidden(i, symbol, 0, 0, 0), sums[i]);
            Check.due("hidden with booth " + i, x.hidden(i, symbol, 0, 0, 1), many[i]);
        }
    }

    private static void promise35() {
        FirstPolls x = seatOf(6, "few 10;void 9");
        joined(x, 0, new int[6], new int[] {6, 6, 6, 6, 6, 6});
        x.count(0, 0, 0, 6, 0);
        x.count(1, 1, 0, 4, 0);
        x.count(2, 0, 0, 50, 0);
        x.count(2, 1, 9, 50, 0);
        x.count(3, 2, 0, 1, 0);
        x.count(4, 0, 0, 3, 0);
        x.count(5, 1, 0, 6, 0);
        joined(x, 0, new int[] {6, 6, 53, 53, 53, 53}, new int[] {2, 2, 4, 4, 4, 4});
        joined(x, 1, new int[] {4, 4, 6, 6, 6, 6}, new int[] {2, 2, 4, 4, 4, 4});
        x.count(5, 2, 0, 1, 0);
        joined(x, 0, new int[] {6, 6, 50, 50, 3, 3}, new int[] {2, 2, 2, 2, 2, 2});
        x.place(4, 1, 1);
        x.booth(1);
        x.box(6, 0);
        x.count(6, 0, 0, 1, 0);
        Check.due("a booth of another seat by itself", x.hidden(6, 0, 0, 0, 0), 1);
        Check.due("a booth of another seat by itself", x.hidden(6, 0, 0, 0, 1), 1);
        int[][] wrong = {{7, 0, 0, 0, 0}, {-1, 0, 0, 0, 0}, {0, 8, 0, 0, 0}, {0, -1, 0, 0, 0},
            {0, 0, 400, 0, 0}, {0, 0, 0, -1, 0}, {0, 0, 0, 0, 2}, {0, 0, 0, 0, -1}};
        for (int[] w : wrong) {
            Check.due("hidden", x.hidden(w[0], w[1], w[2], w[3], w[4]), NONE);
        }
        FirstPolls y = seatOf(3, "");
        y.count(1, 0, 0, 1, 0);
        y.count(2, 1, 0, 1, 0);
        joined(y, 0, new int[] {1, 1, 1}, new int[] {3, 3, 3});
        y.count(1, 3, 0, 1, 0);
        joined(y, 1, new int[] {1, 1, 1}, new int[] {3, 3, 3});
        y.count(0, 4, 0, 1, 0);
        y.count(0, 5, 0, 1, 0);
        joined(y, 1, new int[] {0, 1, 1}, new int[] {1, 2, 2});
    }

    private static void promise36() {
        FirstPolls x = seatOf(1, "void 9");
        Check.due("shares without papers", x.shares(5, 0, 0, 0), NONE);
        x.count(0, 0, 9, 50, 0);
        Check.due("shares without valid papers", x.shares(5, 0, 0, 0), NONE);
        x.place(5, 1, 1);
        x.booth(1);
        x.box(1, 0);
        x.count(0, 0, 0, 41, 0);
        x.count(1, 1, 0, 29, 0);
        x.count(1, 3, 0, 17, 0);
        x.count(0, 7, 0, 13, 0);
        int[] want = {4, 3, 0, 2, 0, 0, 0, 1};
        for (int symbol = 0; symbol < 8; symbol++) {
            Check.due("shares of ten", x.shares(10, symbol, 0, 0), want[symbol]);
        }
        Check.due("one seat", x.shares(1, 0, 0, 0), 1);
        Check.due("one seat", x.shares(1, 1, 0, 0), 0);
        FirstPolls y = seatOf(1, "");
        for (int symbol = 1; symbol < 5; symbol++) {
            y.count(0, symbol, 0, 10, 0);
        }
        int[] alike = {0, 2, 2, 1, 1, 0, 0, 0};
        for (int symbol = 0; symbol < 8; symbol++) {
            Check.due("alike rests", y.shares(6, symbol, 0, 0), alike[symbol]);
        }
        int[][] wrong = {{0, 1, 0, 0}, {21, 1, 0, 0}, {5, 8, 0, 0}, {5, -1, 0, 0}, {5, 1, 400, 0},
            {5, 1, 0, -1}};
        for (int[] w : wrong) {
            Check.due("shares", y.shares(w[0], w[1], w[2], w[3]), NONE);
        }
        Check.due("twenty seats", y.shares(20, 4, 0, 0), 5);
    }

    private static void promise37And38() {
        FirstPolls x = new FirstPolls();
        int[][] wrong = {{0, 0}, {51, 0}, {1, -1}, {1, 10}, {-1, 0}};
        for (int[] w : wrong) {
            Check.refused(x, "terms", x.terms(w[0], w[1]), -1);
        }
        x.place(0, 0, 0);
        x.place(1, 41, 0);
        x.wish(1);
        x.way(0, 0);
        Check.due("pace 20, no rivers", x.leg(0, 1), 3);
        Check.accepted(x, "terms", x.terms(50, 9), 0);
        x.way(0, 0);
        Check.due("pace 50, nine of rivers", x.leg(0, 1), 10);
        Check.accepted(x, "terms", x.terms(1, 0), 0);
        x.way(0, 0);
        Check.due("pace 1", x.leg(0, 1), 41);
        int[][] spans = {{0, -1, 0}, {0, 0, 400}, {0, 5, 4}, {9, 5, 4}};
        for (int[] w : spans) {
            Check.refused(x, "span", x.span(w[0], w[1], w[2]), -1);
        }
        Check.refused(x, "span", x.span(1, 0, 0), -2);
        Check.refused(x, "span", x.span(-1, 0, 0), -2);
        Check.accepted(x, "span", x.span(0, 399, 399), 0);
        x.way(0, 0);
        Check.due("it waits", x.leg(0, 1), 399);
        Check.accepted(x, "span anew", x.span(0, 0, 40), 0);
        Check.due("too late", x.way(0, 0), 0);
        Check.accepted(x, "span", x.span(0, 0, 41), 0);
        Check.due("just not too late", x.way(0, 0), 1);
    }

    private static void legs(FirstPolls x, int... wishAndDay) {
        for (int i = 0; i < wishAndDay.length; i += 2) {
            Check.due("leg " + i / 2, x.leg(i / 2, 0), wishAndDay[i]);
            Check.due("day of leg " + i / 2, x.leg(i / 2, 1), wishAndDay[i + 1]);
        }
        Check.due("no leg", x.leg(wishAndDay.length / 2, 0), NONE);
        Check.due("no leg", x.leg(-1, 0), NONE);
        Check.due("no such what", x.leg(0, 2), NONE);
        Check.due("no such what", x.leg(0, -1), NONE);
    }

    private static void promise39And40() {
        FirstPolls x = new FirstPolls();
        x.place(0, 50, 0);
        x.place(0, 30, 0);
        x.place(0, 70, 0);
        x.place(1, 50, 99);
        x.terms(10, 5);
        legs(x);
        Check.due("way of no wish", x.way(0, 0), 0);
        legs(x);
        x.wish(2);
        x.wish(1);
        Check.due("way", x.way(0, 10), 2);
        legs(x, 0, 12, 1, 17);
        x.wish(0);
        Check.due("of alike ones the first row", x.way(0, 10), 3);
        legs(x, 0, 12, 2, 15, 1, 18);
        x.wish(3);
        Check.due("over the river at last", x.way(0, 10), 4);
        legs(x, 0, 12, 1, 17, 2, 20, 3, 36);
        x.span(3, 0, 30);
        x.span(2, 0, 10);
        x.span(0, 0, 13);
        Check.due("one can't be", x.way(0, 10), 3);
        legs(x, 2, 10, 0, 13, 1, 18);
        Check.due("no place", x.way(4, 10), NONE);
        Check.due("no day", x.way(0, 400), NONE);
        Check.due("no day", x.way(0, -1), NONE);
        legs(x, 2, 10, 0, 13, 1, 18);
        x.clear();
        legs(x, 2, 10, 0, 13, 1, 18);
        x.wish(0);
        x.wish(1);
        Check.due("the last day", x.way(0, 399), 1);
        legs(x, 0, 399);
        Check.due("too late for the second", x.way(0, 396), 2);
        legs(x, 0, 396, 1, 399);
        Check.due("too late for the second", x.way(0, 397), 1);
        legs(x, 0, 397);
    }

    private static void alikeWays() {
        FirstPolls x = new FirstPolls();
        for (int i = 0; i < 7; i++) {
            x.place(0, 9, 9);
            x.wish(i);
        }
        Check.due("all at one place", x.way(3, 0), 7);
        legs(x, 0, 0, 1, 1, 2, 2, 3, 3, 4, 4, 5, 5, 6, 6);
        x.span(6, 50, 60);
        x.span(0, 20, 20);
        Check.due("the first row though it waits", x.way(3, 0), 7);
        legs(x, 0, 20, 1, 21, 2, 22, 3, 23, 4, 24, 5, 25, 6, 50);
        x.span(0, 51, 51);
        Check.due("as one may", x.way(3, 0), 7);
        legs(x, 1, 0, 2, 1, 3, 2, 4, 3, 5, 4, 6, 50, 0, 51);
    }

    private static void promise41() {
        FirstPolls x = new FirstPolls();
        int[][] wrong = {{0, 1, 0, 0}, {61, 1, 0, 0}, {60, 0, 0, 0}, {60, 13, 0, 0}, {5, 6, 0, 0},
            {5, 2, 3, 0}, {5, 2, -1, 0}, {5, 2, 0, 2}, {5, 2, 0, -1}};
        for (int[] w : wrong) {
            Check.due("doors", x.doors(w[0], w[1], w[2], w[3]), NONE);
        }
        Check.due("all drawn", x.doors(12, 12, 5, 0), 5);
        Check.due("all drawn", x.doors(12, 12, 5, 1), 5);
        Check.due("one door", x.doors(1, 1, 1, 0), 1);
        Check.due("one of twenty just does", x.doors(20, 1, 1, 0), 1);
        Check.due("one of twenty just does", x.doors(20, 1, 0, 1), 19);
        Check.due("one of 21 does not", x.doors(21, 1, 1, 0), 2);
        Check.due("one of 21 does not", x.doors(21, 1, 0, 1), 19);
        Check.due("none of twelve", x.doors(60, 12, 0, 0), 0);
        Check.due("none of twelve", x.doors(60, 12, 0, 1), 11);
        Check.due("all of twelve", x.doors(60, 12, 12, 0), 49);
        Check.due("all of twelve", x.doors(60, 12, 12, 1), 60);
    }

    private static void promise42To44() {
        FirstPolls x = seatOf(2, "");
        x.box(0, 0);
        Check.refused(x, "seal", x.seal(2), -2);
        Check.refused(x, "seal", x.seal(-1), -2);
        Check.due("found, not sealed", x.found(0), -3);
        Check.due("found, no booth", x.found(2), -3);
        Check.due("found, no booth", x.found(-1), -3);
        Check.accepted(x, "seal of none", x.seal(1), 0);
        Check.due("found of none", x.found(1), NONE);
        x.count(0, 0, 0, 100, 0);
        x.count(1, 0, 0, 40, 0);
        x.count(2, 0, 0, 30, 0);
        x.count(0, 0, 0, 20, 9);
        Check.due("more than then", x.found(1), -2);
        Check.accepted(x, "seal of all tellings", x.seal(0), 3);
        Check.due("found", x.found(0), NONE);
        Check.due("found leaves the status", x.status(), 0);
        Check.refused(x, "alter", x.alter(0, 0), -1);
        Check.refused(x, "alter", x.alter(0, 256), -1);
        Check.refused(x, "alter", x.alter(9, -1), -1);
        Check.refused(x, "alter", x.alter(4, 1), -2);
        Check.refused(x, "alter", x.alter(-1, 1), -2);
        Check.accepted(x, "alter", x.alter(2, 255), 30 ^ 255);
        Check.due("found by its number", x.found(0), 2);
        Check.due("it is counted so", x.seat(2, 0, 0, 0), 100 + (30 ^ 255) + 40);
        Check.accepted(x, "alter", x.alter(2, 255), 30);
        Check.due("put right", x.found(0), NONE);
        x.alter(3, 4);
        Check.due("found below", x.found(0), 3);
        x.alter(1, 7);
        Check.due("of another booth's nothing is found", x.found(0), 3);
        x.alter(3, 4);
        x.alter(0, 8);
        x.alter(2, 8);
        Check.due("the first is right, the second not", x.found(0), -2);
        x.alter(0, 8);
        x.alter(2, 8);
        x.alter(0, 1);
        x.alter(3, 1);
        Check.due("two that seem to be the one between", x.found(0), 2);
        x.alter(3, 1);
        x.alter(2, 1);
        Check.due("two that are none", x.found(0), -2);
        Check.accepted(x, "sealed anew", x.seal(0), 3);
        Check.due("sealed anew", x.found(0), NONE);
        x.count(2, 5, 5, 3, 0);
        Check.due("more than then", x.found(0), -2);
    }

    private static void promise45And46() {
        FirstPolls x = seatOf(1, "on");
        Check.refused(x, "image", x.image(2), -1);
        Check.refused(x, "image", x.image(-1), -1);
        Check.refused(x, "back", x.back(2), -1);
        Check.refused(x, "back", x.back(-1), -1);
        Check.refused(x, "back", x.back(0), -2);
        x.name(0, 1, 30, 0, ANNA, 0);
        x.place(1, 60, 0);
        x.place(1, 60, 0);
        x.name(1, 1, 30, 0, ANNA, 0);
        x.count(0, 0, 0, 8, 0);
        x.seal(0);
        Check.accepted(x, "image", x.image(0), 0);
        Check.refused(x, "back", x.back(1), -2);
        Check.accepted(x, "image", x.image(1), 0);
        x.off(0, 0, 0);
        x.moved(1, 2, 0, 0);
        x.apart(0, 1);
        Check.orders(x, 0, "far 5;void 0;strike 0 clause 0");
        x.booth(1);
        x.box(1, 1);
        x.hand(0, 1, 1, 1, 0);
        x.paper(0, 0, 5, 0);
        x.alter(0, 1);
        x.keep(2, 3);
        x.terms(1, 9);
        x.wish(1);
        x.span(0, 7, 9);
        x.feed(0, 0, 0, 0, 0);
        x.image(1);
        Check.accepted(x, "back", x.back(0), 0);
        int[] want = {3, 2, 1, 1, 1, 0, 1, 1, 20};
        for (int what = 0; what < 9; what++) {
            Check.due("all " + what + " behind back", x.all(what), want[what]);
        }
        Check.due("on", x.on(0, 0, 0), 1);
        Check.due("where", x.where(1, 0, 0), 1);
        Check.due("twice", x.twice(0, 0, NONE), 1);
        Check.due("far", x.rule(0, 0, 0, 1), 200);
        Check.due("found", x.found(0), NONE);
        Check.due("not kept", x.seat(2, 0, 0, 8), 0);
        Check.due("paper", x.tells(0, 0, 0, 0), 0);
        Check.due("broken", x.broken(0, 399, 0), NONE);
        Check.due("span stays with its wish", x.way(0, 0), 1);
        Check.due("pace as it was", x.leg(0, 1), 7);
        Check.accepted(x, "back to the other", x.back(1), 0);
        Check.due("on there", x.on(1, 0, 0), 0);
        Check.due("where there", x.where(1, 0, 0), 2);
        Check.due("far there", x.rule(0, 0, 0, 1), 5);
        Check.due("found there", x.found(0), 0);
        Check.due("kept there", x.seat(2, 0, 0, 8), NONE);
        Check.due("paper there", x.tells(0, 0, 0, 0), 5);
        Check.due("broken there", x.broken(0, 399, 0), 1);
        Check.due("pace there", x.way(0, 0), 0);
        x.back(0);
        x.end(0);
        Check.orders(x, 0, "far 6;on");
        Check.due("other orders", x.rule(0, 0, 0, 1), 6);
        x.back(1);
        Check.due("an image stays as it was", x.rule(0, 0, 0, 1), 5);
        x.back(0);
        Check.due("an image stays as it was", x.rule(0, 0, 0, 1), 200);
    }

    private static void promise47And48() {
        FirstPolls x = new FirstPolls();
        for (int what : new int[] {-1, 9, 100, Integer.MIN_VALUE, Integer.MAX_VALUE}) {
            Check.due("all of none", x.all(what), NONE);
        }
        x.place(9, 9, 9);
        x.feed(1, 1, 1, 1, 1);
        x.end(2);
        x.clear();
        x.fault();
        x.of(0, 0);
        x.where(0, 0, 0);
        x.on(0, 0, 0);
        x.roll(0, 0, 0);
        x.like(0, 0);
        x.twice(0, 0, 0);
        x.force(0, 0, 0);
        x.rule(0, 0, 0, 2);
        x.booths(0, 0);
        x.led(0);
        x.judge(0, 0, 0);
        x.held(0, 0, 0);
        x.broken(0, 0, 0);
        x.tells(0, 0, 0, 0);
        x.seat(0, 0, 0, 0);
        x.hidden(0, 0, 0, 0, 0);
        x.shares(1, 0, 0, 0);
        x.way(0, 0);
        x.leg(0, 0);
        x.doors(1, 1, 1, 1);
        x.found(0);
        x.all(0);
        Check.due("status of the latest that tells one", x.status(), -1);
        Check.due("status is asked again", x.status(), -1);
        x.place(0, 0, 0);
        Check.due("status of what was not refused", x.status(), 0);
    }

    public static void main(String[] args) {
        promise33();
        promise34();
        hangs();
        promise35();
        promise36();
        promise37And38();
        promise39And40();
        alikeWays();
        promise41();
        promise42To44();
        promise45And46();
        promise47And48();
        Check.close("CountsTest");
    }
}
