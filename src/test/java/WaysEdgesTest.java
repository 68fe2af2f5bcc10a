/** Terms VI and VII, sentence by sentence, at their edges: ways, doors, sealed booths, images. */
public final class WaysEdgesTest {
    private static final int NONE = FirstPolls.NONE;
    private static final int ANNA = Check.letters("anna");

    /** From place 0 to wished ones at x, all of one seat but those told to be of another. */
    private static FirstPolls wished(int seat, int... xs) {
        FirstPolls x = new FirstPolls();
        x.place(0, 0, 0);
        for (int i = 0; i < xs.length; i++) {
            x.place(seat, xs[i], 0);
            x.wish(i + 1);
        }
        return x;
    }

    private static void legs(FirstPolls x, int... wishAndDay) {
        for (int i = 0; i < wishAndDay.length; i += 2) {
            Check.due("leg " + i / 2, x.leg(i / 2, 0), wishAndDay[i]);
            Check.due("day of leg " + i / 2, x.leg(i / 2, 1), wishAndDay[i + 1]);
        }
        Check.due("no leg", x.leg(wishAndDay.length / 2, 0), NONE);
        Check.due("no leg's day", x.leg(wishAndDay.length / 2, 1), NONE);
    }

    /** "x and y apart together through PACE (1 .. 50; 20 at first), rounded up". */
    private static void paces() {
        int[] ways = {0, 1, 19, 20, 21, 39, 40, 41, 60, 61, 99};
        int[] atFirst = {0, 1, 1, 1, 2, 2, 2, 3, 3, 4, 5};
        int[] byFifty = {0, 1, 1, 1, 1, 1, 1, 1, 2, 2, 2};
        int[] bySeven = {0, 1, 3, 3, 3, 6, 6, 6, 9, 9, 15};
        for (int i = 0; i < ways.length; i++) {
            FirstPolls x = wished(0, ways[i]);
            Check.due("way", x.way(0, 100), 1);
            legs(x, 0, 100 + atFirst[i]);
            x.terms(50, 9);
            x.way(0, 100);
            legs(x, 0, 100 + byFifty[i]);
            x.terms(7, 0);
            x.way(0, 100);
            legs(x, 0, 100 + bySeven[i]);
            x.terms(1, 0);
            x.way(0, 100);
            legs(x, 0, 100 + ways[i]);
            Check.refused(x, "terms", x.terms(0, 5), -1);
            Check.refused(x, "terms", x.terms(5, 10), -1);
            x.way(0, 100);
            legs(x, 0, 100 + ways[i]);
        }
        FirstPolls x = new FirstPolls();
        x.place(0, 40, 50);
        x.place(0, 47, 36);
        x.terms(10, 0);
        x.wish(1);
        x.way(0, 0);
        legs(x, 0, 3);
        x.clear();
        x.wish(0);
        x.way(1, 0);
        legs(x, 0, 3);
    }

    /** "between PLACES of different SEATS RIVERS DAYS more (0 .. 9; 0 at first)". */
    private static void rivers() {
        FirstPolls x = wished(5, 0);
        x.way(0, 0);
        legs(x, 0, 0);
        x.terms(20, 9);
        x.way(0, 0);
        legs(x, 0, 9);
        x = wished(0, 0);
        x.terms(20, 9);
        x.way(0, 0);
        legs(x, 0, 0);
        x = wished(5, 20, 40);
        x.terms(20, 3);
        x.way(0, 0);
        legs(x, 0, 4, 1, 6);
    }

    /** "each with a first and a last DAY for its poll", "Coming too early it waits". */
    private static void spans() {
        for (int last = 8; last <= 12; last++) {
            FirstPolls x = wished(0, 40);
            Check.accepted(x, "span", x.span(0, 0, last), 0);
            Check.due("way", x.way(0, 8), last < 10 ? 0 : 1);
            Check.due("its day", x.leg(0, 1), last < 10 ? NONE : 10);
        }
        for (int first = 8; first <= 12; first++) {
            FirstPolls x = wished(0, 40);
            Check.accepted(x, "span", x.span(0, first, first + 50), 0);
            Check.due("way", x.way(0, 8), 1);
            Check.due("its day", x.leg(0, 1), Math.max(10, first));
        }
        FirstPolls x = wished(0, 0, 0);
        x.span(0, 399, 399);
        x.span(1, 0, 0);
        Check.due("from the first day to the last", x.way(0, 0), 2);
        legs(x, 1, 0, 0, 399);
        x.span(1, 399, 399);
        Check.due("two on one day can't be", x.way(0, 0), 1);
        legs(x, 0, 399);
        x.span(1, 398, 399);
        Check.due("a day apart", x.way(0, 0), 2);
        legs(x, 1, 398, 0, 399);
        Check.due("the first span is another's too late", x.way(0, 399), 1);
        legs(x, 0, 399);
        x.span(1, 0, 399);
        x.span(1, 5, 5);
        Check.due("told anew", x.way(0, 6), 1);
        legs(x, 0, 399);
    }

    /** "without one any": a WISH made behind clear() has no SPAN of an earlier one. */
    private static void spansAreCleared() {
        FirstPolls x = wished(0, 20, 20);
        x.span(0, 50, 60);
        x.span(1, 0, 0);
        Check.due("way", x.way(0, 0), 1);
        legs(x, 0, 50);
        Check.due("clear", x.clear(), 2);
        Check.refused(x, "no span without a wish", x.span(0, 0, 0), -2);
        x.wish(1);
        x.wish(2);
        Check.due("way", x.way(0, 0), 2);
        legs(x, 0, 1, 1, 2);
        Check.due("to the last day", x.way(0, 398), 1);
        legs(x, 0, 399);
    }

    /** "each poll takes a DAY (399 at the latest): it can go on from the next one". */
    private static void theLastDay() {
        FirstPolls x = wished(0, 20, 40);
        Check.due("just both", x.way(0, 396), 2);
        legs(x, 0, 397, 1, 399);
        Check.due("one of them", x.way(0, 397), 1);
        legs(x, 0, 398);
        Check.due("the other", x.way(2, 399), 1);
        legs(x, 1, 399);
        Check.due("none", x.way(0, 399), 0);
        legs(x);
        x.terms(1, 0);
        Check.due("none of a hundred days", x.way(0, 380), 0);
        Check.due("just one", x.way(0, 379), 1);
        legs(x, 0, 399);
    }

    /** "BEST: as many PLACES as can be, of alike ones the earliest DAY of the last poll". */
    private static void best() {
        FirstPolls x = wished(0, 60, 20, 40);
        Check.due("by the earliest end", x.way(0, 0), 3);
        legs(x, 1, 1, 2, 3, 0, 5);
        x.span(2, 0, 2);
        Check.due("more go before earlier", x.way(0, 0), 3);
        legs(x, 2, 2, 0, 4, 1, 7);
        x.span(1, 0, 1);
        x.span(2, 0, 2);
        x.span(0, 0, 3);
        Check.due("two of three, the earlier end", x.way(0, 0), 1);
        legs(x, 1, 1);
        x.span(0, 0, 4);
        x.span(1, 0, 0);
        Check.due("two", x.way(0, 0), 2);
        legs(x, 2, 2, 0, 4);
    }

    /** "then the first as rows of WISHES": also where a later start would come in time. */
    private static void firstRows() {
        FirstPolls x = wished(0, 0, 0, 0, 0);
        x.span(3, 30, 40);
        Check.due("all", x.way(0, 0), 4);
        legs(x, 0, 0, 1, 1, 2, 2, 3, 30);
        x.span(0, 9, 20);
        x.span(1, 5, 20);
        Check.due("the first row, though it waits", x.way(0, 0), 4);
        legs(x, 0, 9, 1, 10, 2, 11, 3, 30);
        x.span(1, 5, 9);
        Check.due("the first row that can be", x.way(0, 0), 4);
        legs(x, 1, 5, 0, 9, 2, 10, 3, 30);
        x.span(2, 0, 4);
        Check.due("the first row that can be", x.way(0, 0), 4);
        legs(x, 2, 0, 1, 5, 0, 9, 3, 30);
        x = wished(0, 20, 20, 60, 60, 40, 0, 80);
        Check.due("seven", x.way(0, 0), 7);
        legs(x, 5, 0, 0, 2, 1, 3, 4, 5, 2, 7, 3, 8, 6, 10);
        x.span(6, 0, 399);
        x.span(5, 11, 399);
        Check.due("seven", x.way(0, 0), 7);
        legs(x, 0, 1, 1, 2, 2, 5, 3, 6, 6, 8, 4, 11, 5, 14);
    }

    /** "kept as the latest": until another WAY is found. */
    private static void theLatestWay() {
        FirstPolls x = wished(0, 20, 40);
        x.image(0);
        x.way(0, 0);
        legs(x, 0, 1, 1, 3);
        Check.due("no place", x.way(3, 0), NONE);
        Check.due("no day", x.way(0, 400), NONE);
        x.clear();
        x.terms(1, 1);
        x.back(0);
        legs(x, 0, 1, 1, 3);
        Check.due("way of no wish", x.way(0, 0), 0);
        legs(x);
    }

    /** "both at most k and at least k in the drawn have at least 1 of 20 of all ways". */
    private static void doors() {
        FirstPolls x = new FirstPolls();
        // 1 of 20 ways exactly: C(6, 3) = 20.
        int[][] wants = {{6, 3, 3, 3, 6}, {6, 3, 0, 0, 3}, {6, 3, 1, 1, 4}, {6, 3, 2, 2, 5},
            {1, 1, 0, 0, 0}, {1, 1, 1, 1, 1}, {2, 2, 1, 1, 1}, {60, 1, 0, 0, 57},
            {60, 1, 1, 3, 60}, {20, 1, 0, 0, 19}, {21, 1, 0, 0, 19}, {19, 1, 0, 0, 18},
            {20, 1, 1, 1, 20}, {21, 1, 1, 2, 21}, {12, 12, 0, 0, 0}, {12, 12, 12, 12, 12},
            {13, 12, 12, 12, 13}, {13, 12, 0, 0, 1}, {60, 12, 6, 16, 44}};
        for (int[] w : wants) {
            Check.due("the least of " + w[0] + " " + w[1] + " " + w[2],
                    x.doors(w[0], w[1], w[2], 0), w[3]);
            Check.due("the greatest of " + w[0] + " " + w[1] + " " + w[2],
                    x.doors(w[0], w[1], w[2], 1), w[4]);
        }
        for (int all = 1; all <= 60; all++) {
            for (int drawn = 1; drawn <= Math.min(12, all); drawn++) {
                for (int had = 0; had <= drawn; had++) {
                    Check.due("turned round", x.doors(all, drawn, had, 0),
                            all - x.doors(all, drawn, drawn - had, 1));
                }
            }
            Check.due("more than there are", x.doors(all, all + 1, 0, 0), NONE);
        }
        Check.due("doors change nothing", x.status(), 0);
    }

    private static FirstPolls counted(int... numbers) {
        FirstPolls x = new FirstPolls();
        x.place(0, 0, 0);
        x.booth(0);
        x.booth(0);
        x.box(0, 0);
        x.box(1, 0);
        for (int n : numbers) {
            x.count(0, 0, 0, n, 0);
            x.count(1, 0, 0, 1000, 0);
        }
        return x;
    }

    /** "its papers COUNTED as they were told (all tellings, their numbers)", "ALTERED". */
    private static void found() {
        int[] masks = {1, 2, 4, 8, 16, 32, 64, 128, 255, 170};
        for (int telling = 0; telling < 5; telling++) {
            for (int mask : masks) {
                FirstPolls x = counted(0, 10_000, 255, 77, 4096);
                int was = new int[] {0, 10_000, 255, 77, 4096}[telling];
                Check.due("not sealed", x.found(0), -3);
                Check.accepted(x, "seal", x.seal(0), 5);
                Check.due("as it was", x.found(0), NONE);
                Check.accepted(x, "alter", x.alter(2 * telling, mask), was ^ mask);
                Check.due("found", x.found(0), 2 * telling);
                Check.due("the other is not sealed", x.found(1), -3);
                Check.accepted(x, "altered back", x.alter(2 * telling, mask), was);
                Check.due("as it was", x.found(0), NONE);
                x.alter(2 * telling + 1, mask);
                Check.due("of the other's nothing", x.found(0), NONE);
            }
        }
    }

    /** "-2 there is none such, or there are more than then". */
    private static void notFound() {
        FirstPolls x = counted(8, 8, 8, 8);
        x.seal(0);
        x.alter(0, 1);
        x.alter(6, 1);
        Check.due("two, 1 and 4: 5 of 2 is no place", x.found(0), -2);
        x.alter(6, 1);
        x.alter(4, 1);
        Check.due("two that seem to be one between", x.found(0), 2);
        x.alter(4, 1);
        x.alter(4, 8);
        Check.due("1 more and 8 less: a place beyond", x.found(0), -2);
        x.alter(4, 8);
        x.alter(0, 1);
        x.alter(0, 8);
        x.alter(6, 16);
        Check.due("8 less of 1 and 16 more of 4: place 7", x.found(0), -2);
        x.alter(6, 16);
        x.alter(6, 24);
        Check.due("8 less of 1 and 8 more of 4: none", x.found(0), -2);
        x.alter(6, 24);
        x.alter(0, 8);
        Check.due("as it was", x.found(0), NONE);
        x.count(0, 1, 1, 1, 0);
        Check.due("more than then", x.found(0), -2);
        x.alter(0, 1);
        Check.due("more than then, and one altered", x.found(0), -2);
        Check.accepted(x, "sealed anew", x.seal(0), 5);
        Check.due("as it is", x.found(0), NONE);
        x = counted(8);
        x.seal(0);
        x.count(0, 1, 1, 0, 0);
        Check.due("one more of no papers: both sums are as they were", x.found(0), NONE);
        x.alter(0, 1);
        Check.due("but there are more than then", x.found(0), -2);
        x = counted();
        Check.accepted(x, "sealed with nothing", x.seal(0), 0);
        Check.due("as it was", x.found(0), NONE);
        x.count(0, 0, 0, 5, 0);
        Check.due("more than then", x.found(0), -2);
    }

    /** Tellings known later, or told anew, are sums of their own: they are all kept. */
    private static void allTellings() {
        FirstPolls x = new FirstPolls();
        x.place(0, 0, 0);
        x.booth(0);
        x.box(0, 0);
        x.box(0, 0);
        x.count(0, 0, 0, 5, 399);
        x.count(0, 0, 0, 5, 0);
        x.count(1, 0, 0, 5, 0);
        x.count(0, 0, 0, 5, 7);
        Check.accepted(x, "seal", x.seal(0), 4);
        for (int telling = 0; telling < 4; telling++) {
            x.alter(telling, 2);
            Check.due("found", x.found(0), telling);
            x.alter(telling, 2);
        }
        x.alter(0, 2);
        Check.due("it counts as altered", x.tells(0, 0, 399, 4), 5 + 5);
        x.alter(3, 2);
        Check.due("it counts as altered", x.tells(0, 0, 399, 4), 7 + 5);
    }

    private static FirstPolls land() {
        FirstPolls x = new FirstPolls();
        fill(x);
        return x;
    }

    private static void fill(FirstPolls x) {
        x.place(0, 0, 0);
        x.place(1, 30, 0);
        Check.orders(x, 0, "on;void 9;most 50;again if broken;few 5");
        x.name(0, 1, 30, 0, ANNA, 0);
        x.name(1, 1, 30, 0, ANNA, 0);
        x.booth(0);
        x.box(0, 7);
        x.hand(0, 1, 1, 7, 0);
        x.paper(0, 1, 10, 0);
        x.count(0, 0, 0, 10, 0);
        x.count(0, 1, 9, 10, 0);
        x.seal(0);
        x.wish(0);
        x.wish(1);
        x.booths(0, 0);
        x.way(0, 0);
    }

    /** Back to a land where nothing was told, nothing is left; and all can be told again. */
    private static void backToNothing() {
        FirstPolls x = new FirstPolls();
        x.image(1);
        fill(x);
        String was = Seen.of(x);
        Check.due("two are alike", x.twice(0, 0, NONE), 1);
        for (int round = 0; round < 3; round++) {
            Check.accepted(x, "back", x.back(1), 0);
            Check.due("nobody is", x.twice(0, 0, NONE), 0);
            x.clear();
            Check.due("booths", x.booths(0, 0), 0);
            Check.due("no place to go from", x.way(0, 0), NONE);
            x.place(0, 0, 0);
            Check.due("no wish to go to", x.way(0, 0), 0);
            x.back(1);
            FirstPolls y = new FirstPolls();
            y.booths(0, 0);
            Check.due("as a new one", Seen.of(x).equals(Seen.of(y)) ? 1 : 0, 1);
            fill(x);
            Check.due("as it was", Seen.of(x).equals(was) ? 1 : 0, 1);
        }
    }

    private interface Change {
        int make(FirstPolls x);
    }

    /** "IMAGES 0, 1 keep all but ...; BACK to one all is as it was then (IMAGES stay)". */
    private static void images() {
        Change[] changes = {x -> x.place(5, 9, 9), x -> x.name(0, 1, 30, 0, ANNA, 0),
            x -> x.off(0, 0, 0), x -> x.moved(0, 1, 0, 0), x -> x.apart(0, 1),
            x -> Check.orders(x, 0, "far 3;strike 0 clause 1"), x -> x.booth(1), x -> x.box(0, 9),
            x -> x.hand(0, 2, 2, 8, 0), x -> x.paper(0, 3, 5, 0), x -> x.count(0, 5, 5, 5, 0),
            x -> x.alter(0, 9), x -> x.keep(0, 1), x -> x.terms(1, 9)};
        for (int i = 0; i < changes.length; i++) {
            for (int k = 0; k < 2; k++) {
                FirstPolls x = land();
                String was = Seen.of(x);
                Check.refused(x, "not kept", x.back(k), -2);
                Check.accepted(x, "image", x.image(k), 0);
                Check.refused(x, "the other is not kept", x.back(1 - k), -2);
                Check.due("change " + i, changes[i].make(x) >= 0 ? 1 : 0, 1);
                x.way(0, 0);
                String is = Seen.of(x);
                Check.due("change " + i + " is seen", is.equals(was) ? 1 : 0, 0);
                Check.accepted(x, "the other image", x.image(1 - k), 0);
                Check.accepted(x, "back", x.back(k), 0);
                x.way(0, 0);
                Check.due("as it was", Seen.of(x).equals(was) ? 1 : 0, 1);
                Check.accepted(x, "back to the other", x.back(1 - k), 0);
                x.way(0, 0);
                Check.due("as it was with the change", Seen.of(x).equals(is) ? 1 : 0, 1);
                Check.accepted(x, "back again: images stay", x.back(k), 0);
                Check.due("it can be changed anew", changes[i].make(x) >= 0 ? 1 : 0, 1);
                Check.accepted(x, "and back", x.back(k), 0);
                x.way(0, 0);
                Check.due("the image has not changed", Seen.of(x).equals(was) ? 1 : 0, 1);
            }
        }
    }

    /** A BOOTH SEALED behind the IMAGE is not SEALED in it, and the other way round. */
    private static void imagesOfSeals() {
        FirstPolls x = counted(5, 6);
        x.image(0);
        x.seal(0);
        x.alter(0, 4);
        x.image(1);
        Check.due("found", x.found(0), 0);
        x.back(0);
        Check.due("not sealed", x.found(0), -3);
        x.back(1);
        Check.due("found", x.found(0), 0);
        x.seal(0);
        Check.due("sealed anew", x.found(0), NONE);
        x.back(1);
        Check.due("as it was sealed", x.found(0), 0);
    }

    /** "all but the TAPE, FAULT, WISHES and the latest BESTS": those stay as they are. */
    private static void whatImagesDoNotKeep() {
        FirstPolls x = land();
        x.image(0);
        Check.faulty(x, "on on", 3);
        x.feed(1, 2, 3, 4, 5);
        x.end(9);
        x.clear();
        x.wish(1);
        x.span(0, 33, 44);
        Check.due("booths", x.booths(0, 0), 1);
        Check.due("way", x.way(0, 0), 1);
        x.back(0);
        Check.due("fault", x.fault(), 3);
        Check.due("tape", x.all(8), 9);
        Check.due("wishes", x.all(7), 1);
        Check.due("led", x.led(0), 0);
        Check.due("led of one wish alone", x.led(1), NONE);
        Check.due("leg", x.leg(0, 1), 33);
        Check.due("leg of one wish alone", x.leg(1, 0), NONE);
        Check.due("the wish is of place 1", x.way(1, 0), 1);
        Check.due("its span stays", x.leg(0, 1), 33);
        Check.refused(x, "wished", x.wish(1), -4);
        Check.accepted(x, "image anew", x.image(0), 0);
        x.place(5, 5, 5);
        x.image(0);
        x.back(0);
        Check.due("an image anew is of then", x.all(0), 3);
    }

    public static void main(String[] args) {
        paces();
        rivers();
        spans();
        spansAreCleared();
        theLastDay();
        best();
        firstRows();
        theLatestWay();
        doors();
        found();
        notFound();
        allTellings();
        images();
        backToNothing();
        imagesOfSeals();
        whatImagesDoNotKeep();
        Check.close("WaysEdgesTest");
    }
}
