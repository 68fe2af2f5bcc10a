/** Terms V, sentence by sentence, at their edges: papers, counts, seats, joined booths, shares. */
public final class CountsEdgesTest {
    private static final int NONE = FirstPolls.NONE;
    private static final int ANNA = Check.letters("anna");

    /** So many booths with a box each, one place each, all of a seat. */
    private static FirstPolls seatOf(int seat, int booths, String orders) {
        FirstPolls x = new FirstPolls();
        if (!orders.isEmpty()) {
            Check.due("order of " + orders, Check.orders(x, 0, orders), 0);
        }
        for (int i = 0; i < booths; i++) {
            x.place(seat, i, 0);
            x.booth(i);
            x.box(i, 5);
        }
        return x;
    }

    /** "0 .. 100,000 each, told anew: the latest known counts; 120 tellings at most". */
    private static void papers() {
        FirstPolls x = seatOf(0, 2, "");
        for (int what = 0; what < 4; what++) {
            Check.accepted(x, "paper", x.paper(1, what, 100_000 - what, 5), what + 1);
        }
        for (int what = 0; what < 4; what++) {
            Check.due("told", x.tells(1, 0, 5, what), 100_000 - what);
            Check.due("not known", x.tells(1, 0, 4, what), 0);
            Check.due("known again", x.tells(1, 0, 399, what), 100_000 - what);
            Check.due("of the other booth", x.tells(0, 0, 399, what), 0);
        }
        x.paper(1, 2, 0, 7);
        Check.due("told anew as 0", x.tells(1, 0, 7, 2), 0);
        Check.due("not known to be so", x.tells(1, 0, 6, 2), 99_998);
        x.paper(1, 2, 6, 6);
        Check.due("told last", x.tells(1, 0, 7, 2), 6);
        Check.due("told last", x.tells(1, 0, 6, 2), 6);
        Check.due("as known ahead of it", x.tells(1, 0, 5, 2), 99_998);
        Check.due("the others stay", x.tells(1, 0, 7, 1), 99_999);
        for (int i = 7; i <= 120; i++) {
            Check.accepted(x, "paper", x.paper(0, 3, i, i), i);
        }
        Check.refused(x, "one more", x.paper(0, 3, 7, 0), -5);
        Check.due("the last telling", x.tells(0, 0, 120, 3), 120);
        Check.due("the last but one", x.tells(0, 0, 119, 3), 119);
    }

    /** "of the same BOX, SYMBOL, MARK that told last of those known": all others stand beside. */
    private static void counted() {
        FirstPolls x = seatOf(0, 2, "void 9 if 1=2");
        x.box(0, 6);
        int put = 0;
        int told = 0;
        for (int symbol = 0; symbol < 8; symbol++) {
            for (int mark = 0; mark < 10; mark++) {
                for (int box = 0; box < 3; box += 2) {
                    Check.accepted(x, "count", x.count(box, symbol, mark, told % 7 + 1, 0), told);
                    put += told % 7 + 1;
                    told++;
                }
            }
        }
        Check.due("all of them", x.tells(0, 0, 0, 4), put);
        Check.due("all of them are valid", x.tells(0, 0, 0, 8), put);
        Check.due("of the other booth", x.tells(1, 0, 0, 4), 0);
        Check.accepted(x, "the first anew", x.count(0, 0, 0, 100, 3), told);
        Check.due("not known", x.tells(0, 0, 2, 4), put);
        Check.due("known", x.tells(0, 0, 3, 4), put - 1 + 100);
        Check.accepted(x, "the last anew, as 0", x.count(2, 7, 9, 0, 3), told + 1);
        Check.due("known", x.tells(0, 0, 3, 4), put - 1 + 100 - (159 % 7 + 1));
        Check.accepted(x, "known earlier, told last", x.count(0, 0, 0, 50, 1), told + 2);
        Check.due("told last", x.tells(0, 0, 1, 4), put - 1 + 50);
        Check.due("told last", x.tells(0, 0, 399, 4), put - 1 + 50 - (159 % 7 + 1));
        Check.due("as at first", x.tells(0, 0, 0, 4), put);
    }

    /** "so many papers (0 .. 10,000), 200 at most": as many as can be in all. */
    private static void asManyAsCanBe() {
        FirstPolls x = new FirstPolls();
        x.place(5, 0, 0);
        for (int i = 0; i < 20; i++) {
            x.booth(0);
            x.box(i, 0);
            x.box(i, 0);
        }
        for (int i = 0; i < 200; i++) {
            Check.accepted(x, "count", x.count(38 + i % 2, i / 2 % 8, i / 16 % 10, 10_000, i), i);
        }
        Check.refused(x, "one more", x.count(39, 0, 0, 0, 0), -5);
        Check.due("put", x.tells(19, 0, 399, 4), 1_600_000);
        Check.due("put, but for the last", x.tells(19, 0, 158, 4), 1_590_000);
        Check.due("lost", x.tells(19, 0, 399, 5), -1_600_000);
        Check.due("valid", x.tells(19, 0, 399, 8), 1_600_000);
        Check.due("a symbol's", x.seat(5, 0, 399, 7), 200_000);
        Check.due("shares", x.shares(20, 0, 0, 399), 3);
        Check.due("shares", x.shares(20, 7, 0, 399), 2);
        Check.due("hidden", x.hidden(0, 7, 0, 399, 0), 200_000);
        Check.due("hidden with", x.hidden(0, 7, 0, 399, 1), 20);
        x.paper(19, 1, 100_000, 0);
        x.paper(19, 2, 100_000, 5);
        Check.due("lost, with given", x.tells(19, 0, 4, 5), 100_000 - 50_000);
        Check.due("lost, the least", x.tells(19, 0, 399, 5), -1_600_000);
        Check.accepted(x, "seal", x.seal(19), 200);
        Check.accepted(x, "alter", x.alter(199, 255), 10_000 ^ 255);
        Check.due("found", x.found(19), 199);
    }

    /** "VALID are those of a MARK of which no "void" HOLDS for the BOOTH": each MARK by itself. */
    private static void voids() {
        for (int mark = 0; mark < 10; mark++) {
            FirstPolls x = seatOf(0, 2, "void " + mark + " if place=1;void " + mark + " if 1/0=1");
            for (int m = 0; m < 10; m++) {
                x.count(0, m % 8, m, 1 << m, 0);
                x.count(1, m % 8, m, 1 << m, 0);
            }
            Check.due("all valid", x.tells(0, 0, 0, 8), 1023);
            Check.due("all but one mark's", x.tells(1, 0, 0, 8), 1023 - (1 << mark));
            Check.due("put", x.tells(1, 0, 0, 4), 1023);
            int both = 2 << mark;
            int others = mark < 2 ? 2 << (mark + 8) : mark > 7 ? 2 << (mark - 8) : 0;
            Check.due("the symbol's", x.seat(0, 0, 0, mark % 8), both / 2 + others);
        }
        FirstPolls x = seatOf(0, 1, "void 0;void 1;void 2;void 3;void 4;void 5;void 6;void 7;void 8;"
                + "void 9;again if put=10 and lost=0-10");
        for (int mark = 0; mark < 10; mark++) {
            x.count(0, 0, mark, 1, 0);
        }
        Check.due("all are void", x.tells(0, 0, 0, 8), 0);
        Check.due("put all the same", x.tells(0, 0, 0, 7), 1);
        Check.due("nobody has it", x.seat(0, 0, 0, 8), NONE);
        Check.due("no shares", x.shares(20, 0, 0, 0), NONE);
    }

    /** "AGREE: PRINTED is GIVEN and BACK, and LOST is 0": each off by one. */
    private static void agree() {
        int[][] told = {{50, 30, 5, 20, 25}, {51, 30, 5, 20, 25}, {49, 30, 5, 20, 25},
            {50, 30, 4, 20, 25}, {50, 30, 6, 20, 25}, {50, 30, 5, 20, 24}, {50, 30, 5, 20, 26},
            {50, 30, 5, 21, 25}, {50, 30, 5, 19, 25}, {51, 31, 5, 20, 25}, {51, 31, 6, 20, 25},
            {0, 0, 0, 0, 0}, {100_000, 0, 0, 100_000, 0}};
        int[] lost = {0, 0, 0, 1, -1, 1, -1, 0, 0, 1, 0, 0, 0};
        int[] want = {1, 0, 0, 0, 0, 0, 0, 0, 0, 0, 1, 1, 1};
        for (int i = 0; i < told.length; i++) {
            FirstPolls x = seatOf(0, 1, "");
            for (int what = 0; what < 4; what++) {
                x.paper(0, what, told[i][what], 0);
            }
            x.count(0, 0, 0, told[i][4], 0);
            Check.due("lost " + i, x.tells(0, 0, 0, 5), lost[i]);
            Check.due("agree " + i, x.tells(0, 0, 0, 6), want[i]);
        }
    }

    /** "SEAT's sums": of each SEAT by itself, "the one with the most has it, of alike ones ... none". */
    private static void seats() {
        for (int seat = 0; seat < 6; seat++) {
            for (int symbol = 0; symbol < 8; symbol++) {
                FirstPolls x = seatOf(seat, 2, "");
                int other = (symbol + 3) % 8;
                x.count(0, symbol, 0, 1, 0);
                Check.due("one paper is enough", x.seat(seat, 0, 0, 8), symbol);
                Check.due("more than 0", x.seat(seat, 0, 0, 9), 1);
                x.count(1, other, 0, 1, 1);
                Check.due("alike ones", x.seat(seat, 0, 1, 8), NONE);
                Check.due("no margin", x.seat(seat, 0, 1, 9), 0);
                x.count(1, symbol, 5, 1, 2);
                Check.due("one more", x.seat(seat, 0, 2, 8), symbol);
                Check.due("by one", x.seat(seat, 0, 2, 9), 1);
                x.count(0, other, 1, 10_000, 3);
                Check.due("the other one", x.seat(seat, 0, 3, 8), other);
                Check.due("by many", x.seat(seat, 0, 3, 9), 9_999);
                Check.due("its sum", x.seat(seat, 0, 3, other), 10_001);
                Check.due("another seat's", x.seat((seat + 1) % 6, 0, 3, other), 0);
                Check.due("nobody has another", x.seat((seat + 1) % 6, 0, 3, 8), NONE);
            }
        }
        FirstPolls x = seatOf(0, 1, "");
        x.count(0, 0, 0, 0, 0);
        Check.due("a telling of no papers", x.seat(0, 0, 0, 8), NONE);
        for (int symbol = 0; symbol < 8; symbol++) {
            x.count(0, symbol, 0, 7, 0);
        }
        Check.due("all alike", x.seat(0, 0, 0, 8), NONE);
        x.count(0, 3, 1, 1, 0);
        Check.due("one of them has more", x.seat(0, 0, 0, 8), 3);
        x.count(0, 6, 1, 1, 0);
        Check.due("two of them have more", x.seat(0, 0, 0, 8), NONE);
    }

    /** "a KEPT SEAT only one of the SYMBOLS told to stand there", "(than 0, if there is none ...)". */
    private static void keptSeats() {
        for (int seat = 0; seat < 6; seat++) {
            FirstPolls x = seatOf(seat, 1, "");
            int[] sums = {9, 20, 7, 20, 0, 3, 3, 1};
            for (int symbol = 0; symbol < 8; symbol++) {
                x.count(0, symbol, 0, sums[symbol], 0);
            }
            Check.due("two have the most", x.seat(seat, 0, 0, 8), NONE);
            int[] keeps = {4, 7, 6, 5, 0, 2, 1, 3};
            int[] holders = {NONE, 7, 6, NONE, 0, 0, 1, NONE};
            int[] margins = {0, 1, 2, 0, 6, 2, 11, 0};
            for (int i = 0; i < 8; i++) {
                Check.accepted(x, "keep", x.keep(seat, keeps[i]), 0);
                Check.due("who has it by " + i, x.seat(seat, 0, 0, 8), holders[i]);
                Check.due("margin by " + i, x.seat(seat, 0, 0, 9), margins[i]);
                Check.due("sums stay", x.seat(seat, 0, 0, 1), 20);
                Check.refused(x, "keep twice", x.keep(seat, keeps[i]), -4);
            }
            FirstPolls y = seatOf(seat, 1, "");
            y.keep((seat + 1) % 6, 0);
            y.count(0, 7, 0, 5, 0);
            Check.due("another seat is kept", y.seat(seat, 0, 0, 8), 7);
            y.keep(seat, 7);
            Check.due("margin over none", y.seat(seat, 0, 0, 9), 5);
        }
    }

    /** "one of its BOOTHS at least is AGAIN, and NAMES ON ... are together not below the MARGIN". */
    private static void hangsAtItsEdge() {
        for (int seat = 0; seat < 6; seat += 5) {
            for (int margin = 0; margin <= 6; margin++) {
                FirstPolls x = seatOf(seat, 3, "on;again if given=1");
                for (int i = 0; i < 6; i++) {
                    x.name(i / 2, i, 30, 0, ANNA, 0);
                }
                x.booth(0);
                x.place((seat + 1) % 6, 9, 9);
                x.booth(3);
                x.count(1, 2, 0, margin, 0);
                x.paper(4, 1, 1, 0);
                Check.due("none is again", x.seat(seat, 0, 0, 10), 0);
                x.paper(0, 1, 1, 0);
                x.paper(3, 1, 1, 0);
                Check.due("two names, each place once", x.seat(seat, 0, 0, 10), margin <= 2 ? 1 : 0);
                x.paper(2, 1, 1, 1);
                Check.due("four names", x.seat(seat, 0, 1, 10), margin <= 4 ? 1 : 0);
                x.off(5, 0, 0);
                Check.due("three names", x.seat(seat, 0, 1, 10), margin <= 3 ? 1 : 0);
            }
        }
        FirstPolls x = seatOf(0, 1, "again");
        Check.due("no names and no margin", x.seat(0, 0, 0, 10), 1);
        Check.due("no booths", x.seat(1, 0, 0, 10), 0);
        x.count(0, 0, 0, 1, 0);
        Check.due("no names and a margin", x.seat(0, 0, 0, 10), 0);
        x.keep(0, 1);
        Check.due("nobody has it", x.seat(0, 0, 0, 10), 1);
    }

    private static void joined(FirstPolls x, int... many) {
        for (int booth = 0; booth < many.length; booth++) {
            Check.due("joined with " + booth, x.hidden(booth, 0, 0, 0, 1), many[booth]);
        }
    }

    /** "as many as are needed that their PUT together is at least FEW". */
    private static void fewAtItsEdge() {
        int[][] wants = {{1, 1, 1, 1}, {1, 1, 1, 1}, {1, 1, 1, 1}, {2, 2, 2, 2}, {2, 2, 2, 2},
            {4, 4, 4, 4}, {4, 4, 4, 4}, {4, 4, 4, 4}, {4, 4, 4, 4}, {4, 4, 4, 4}};
        for (int few = 0; few < wants.length; few++) {
            FirstPolls x = seatOf(0, 4, "few " + few);
            for (int booth = 0; booth < 4; booth++) {
                x.count(booth, 0, 0, 1, 0);
                x.count(booth, 1, 0, 1, 0);
            }
            joined(x, wants[few]);
            Check.due("the sum told by few " + few, x.hidden(3, 1, 0, 0, 0), wants[few][3]);
        }
        FirstPolls x = seatOf(0, 5, "few 6");
        for (int booth = 0; booth < 5; booth++) {
            x.count(booth, 0, 0, 1, 0);
            x.count(booth, 1, 0, 1, 0);
        }
        joined(x, 5, 5, 5, 5, 5);
        x.count(4, 2, 0, 2, 0);
        joined(x, 3, 3, 3, 2, 2);
        x.count(4, 2, 0, 1, 0);
        joined(x, 5, 5, 5, 5, 5);
        x.count(0, 2, 0, 4, 0);
        joined(x, 1, 4, 4, 4, 4);
        x.count(0, 2, 0, 3, 0);
        joined(x, 2, 2, 3, 3, 3);
    }

    /** "and among them are VALID papers of two SYMBOLS at least". */
    private static void twoSymbols() {
        FirstPolls x = seatOf(0, 4, "void 9");
        joined(x, 4, 4, 4, 4);
        x.count(0, 0, 0, 10, 0);
        x.count(0, 7, 9, 10, 0);
        joined(x, 4, 4, 4, 4);
        x.count(1, 0, 1, 10, 0);
        joined(x, 4, 4, 4, 4);
        x.count(2, 7, 8, 1, 0);
        joined(x, 4, 4, 4, 4);
        Check.due("told", x.hidden(3, 7, 0, 0, 0), 1);
        Check.due("told", x.hidden(3, 0, 0, 0, 0), 20);
        x.count(3, 6, 0, 1, 0);
        joined(x, 4, 4, 4, 4);
        x.count(3, 5, 0, 1, 0);
        joined(x, 3, 3, 3, 1);
        Check.due("told", x.hidden(3, 6, 0, 0, 0), 1);
        Check.due("told", x.hidden(0, 6, 0, 0, 0), 0);
        x.count(2, 7, 8, 0, 0);
        joined(x, 4, 4, 4, 4);
    }

    /** "BOOTHS of a SEAT in order", "or is one by itself, if there is none". */
    private static void joinedBySeat() {
        FirstPolls x = new FirstPolls();
        Check.orders(x, 0, "few 4");
        x.place(0, 0, 0);
        x.place(5, 0, 0);
        for (int i = 0; i < 20; i++) {
            x.booth(i % 2);
            x.box(i, 0);
            x.count(i, i % 4 / 2, 0, 2, 0);
        }
        for (int i = 0; i < 20; i++) {
            Check.due("by twos of a seat", x.hidden(i, 0, 0, 0, 1), 2);
            Check.due("one symbol's", x.hidden(i, 0, 0, 0, 0), 2);
            Check.due("the other symbol's", x.hidden(i, 1, 0, 0, 0), 2);
            Check.due("another symbol's", x.hidden(i, 7, 0, 0, 0), 0);
        }
        x.count(19, 1, 0, 1, 3);
        Check.due("the last joins the last", x.hidden(19, 0, 0, 3, 1), 4);
        Check.due("the last joins the last", x.hidden(13, 1, 0, 3, 0), 3);
        Check.due("of the other seat all is as it was", x.hidden(18, 0, 0, 3, 1), 2);
        Check.due("as it was known", x.hidden(19, 0, 0, 2, 1), 2);
    }

    private static void shares(FirstPolls x, int n, int... want) {
        int sum = 0;
        for (int symbol = 0; symbol < 8; symbol++) {
            Check.due(n + " seats of " + symbol, x.shares(n, symbol, 0, 0), want[symbol]);
            sum += x.shares(n, symbol, 0, 0);
        }
        Check.due("all seats", sum, n);
    }

    /** "whole parts ..., the rest one each by the greatest rests, of alike ones the lower SYMBOL". */
    private static void sharesAtTheirEdges() {
        FirstPolls x = seatOf(0, 1, "");
        x.count(0, 7, 0, 1, 0);
        shares(x, 1, 0, 0, 0, 0, 0, 0, 0, 1);
        shares(x, 20, 0, 0, 0, 0, 0, 0, 0, 20);
        x.count(0, 0, 0, 1, 0);
        shares(x, 1, 1, 0, 0, 0, 0, 0, 0, 0);
        shares(x, 2, 1, 0, 0, 0, 0, 0, 0, 1);
        shares(x, 19, 10, 0, 0, 0, 0, 0, 0, 9);
        for (int symbol = 0; symbol < 8; symbol++) {
            x.count(0, symbol, 0, 5, 0);
        }
        shares(x, 7, 1, 1, 1, 1, 1, 1, 1, 0);
        shares(x, 8, 1, 1, 1, 1, 1, 1, 1, 1);
        shares(x, 20, 3, 3, 3, 3, 2, 2, 2, 2);
        x.count(0, 4, 0, 6, 0);
        shares(x, 20, 3, 3, 3, 2, 3, 2, 2, 2);
        int[] sums = {0, 60, 0, 25, 0, 15, 0, 0};
        for (int symbol = 0; symbol < 8; symbol++) {
            x.count(0, symbol, 0, sums[symbol], 0);
        }
        shares(x, 20, 0, 12, 0, 5, 0, 3, 0, 0);
        shares(x, 3, 0, 2, 0, 1, 0, 0, 0, 0);
        shares(x, 4, 0, 2, 0, 1, 0, 1, 0, 0);
        shares(x, 1, 0, 1, 0, 0, 0, 0, 0, 0);
    }

    /** "over all SEATS' VALID papers", whatever is KEPT, and behind joined BOOTHS as ahead of them. */
    private static void sharesOverAllSeats() {
        FirstPolls x = new FirstPolls();
        Check.orders(x, 0, "void 9;few 100");
        for (int seat = 0; seat < 6; seat++) {
            x.place(seat, 0, 0);
            x.booth(seat);
            x.box(seat, 0);
            x.count(seat, seat, 0, 10, 0);
            x.count(seat, 7, 9, 10, 0);
        }
        x.keep(0, 7);
        shares(x, 12, 2, 2, 2, 2, 2, 2, 0, 0);
        for (int booth = 0; booth < 6; booth++) {
            Check.due("hidden", x.hidden(booth, booth, 0, 0, 0), 10);
            Check.due("a seat's share", x.shares(12, booth, 0, 0), 2);
            Check.due("none", x.shares(12, 7, 0, 0), 0);
            Check.due("hidden once more", x.hidden(booth, booth, 0, 0, 0), 10);
            Check.due("by itself", x.hidden(booth, booth, 0, 0, 1), 1);
        }
    }

    public static void main(String[] args) {
        papers();
        counted();
        asManyAsCanBe();
        voids();
        agree();
        seats();
        keptSeats();
        hangsAtItsEdge();
        fewAtItsEdge();
        twoSymbols();
        joinedBySeat();
        sharesAtTheirEdges();
        sharesOverAllSeats();
        Check.close("CountsEdgesTest");
    }
}
