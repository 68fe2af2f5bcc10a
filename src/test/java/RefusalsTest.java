/** By what calls are refused, which reason goes first, and that a refused call changes nothing. */
public final class RefusalsTest {
    private static final int NONE = FirstPolls.NONE;
    private static final int ANNA = Check.letters("anna");

    private interface Call {
        int of(FirstPolls x);
    }

    /** As much as there can be of everything that can be full. */
    private static FirstPolls full() {
        FirstPolls x = new FirstPolls();
        for (int i = 0; i < 16; i++) {
            x.place(i % 6, i, 2 * i);
        }
        Check.orders(x, 0, "on;void 3 if put>900;again if lost<0;most 30;far 60;few 30");
        for (int i = 1; i < 20; i++) {
            Check.orders(x, i, "off if age=" + i + ";strike " + (i - 1) + " clause 1");
        }
        for (int i = 0; i < 200; i++) {
            x.name(i % 16, i % 3, i % 30, i % 4, ANNA, i % 8);
        }
        x.off(3, 5, 6);
        x.moved(4, 5, 5, 6);
        for (int i = 0; i < 40; i++) {
            x.apart(i, i + 1);
            x.booth(i % 16);
            x.box(i / 2, i);
        }
        for (int i = 0; i < 200; i++) {
            x.hand(i % 40, i % 20, i, i % 40 + i / 150, i % 9);
            x.paper(i % 20, i % 4, i, i % 9);
            x.count(i % 40, i % 8, i % 10, i, i % 9);
        }
        for (int i = 0; i < 7; i++) {
            x.wish(2 * i);
        }
        x.keep(1, 2);
        x.seal(2);
        x.booths(0, 0);
        x.way(0, 0);
        x.image(0);
        return x;
    }

    private static FirstPolls some() {
        FirstPolls x = new FirstPolls();
        x.place(0, 0, 0);
        x.place(1, 5, 5);
        x.name(0, 1, 30, 0, ANNA, 0);
        x.name(1, 1, 30, 0, ANNA, 0);
        Check.orders(x, 0, "on;far 7");
        x.booth(0);
        x.box(0, 7);
        x.hand(0, 1, 2, 7, 0);
        x.paper(0, 1, 10, 0);
        x.count(0, 0, 0, 10, 0);
        x.seal(0);
        x.wish(0);
        x.span(0, 3, 30);
        x.booths(0, 0);
        x.way(1, 0);
        return x;
    }

    /** The call is refused so, and all is as it was. */
    private static void refused(FirstPolls x, String call, int by, Call asked) {
        String was = Seen.of(x);
        Check.refused(x, call, asked.of(x), by);
        String is = Seen.of(x);
        Check.due(call + " changes nothing", is.equals(was) ? 1 : 0, 1);
    }

    private static void ofAFullLand() {
        FirstPolls x = full();
        int[] most = {16, 200, 20, 20, 40, 200, 200, 7, 0};
        for (int what = 0; what < most.length; what++) {
            Check.due("it is full of " + what, x.all(what), most[what]);
        }
        refused(x, "place -1 -5", -1, y -> y.place(6, 0, 0));
        refused(x, "place -5", -5, y -> y.place(0, 0, 0));
        refused(x, "name -1 -2 -5", -1, y -> y.name(16, 100, 0, 0, ANNA, 0));
        refused(x, "name -1 -5", -1, y -> y.name(0, 0, 0, 0, ANNA, 400));
        refused(x, "name -2 -5", -2, y -> y.name(16, 0, 0, 0, ANNA, 0));
        refused(x, "name -5", -5, y -> y.name(0, 0, 0, 0, ANNA, 0));
        refused(x, "row -1 -2 -6", -1, y -> y.row(16, 400));
        refused(x, "row -2 -6", -2, y -> y.row(16, 0));
        refused(x, "row -6", -6, y -> y.row(0, 0));
        x.feed(0, 0, 0, 0, 0);
        refused(x, "row -1 -2 -5", -1, y -> y.row(16, 400));
        refused(x, "row -1 -5", -1, y -> y.row(0, -1));
        refused(x, "row -2 -5", -2, y -> y.row(-1, 0));
        refused(x, "row -5", -5, y -> y.row(0, 0));
        refused(x, "order -1 -5 -6", -1, y -> y.order(400));
        refused(x, "order -5 -6", -5, y -> y.order(0));
        x.end(0);
        refused(x, "order of nothing -5 -6", -5, y -> y.order(399));
        refused(x, "apart -2 -3 -5", -2, y -> y.apart(200, 200));
        refused(x, "apart -2 -5", -2, y -> y.apart(0, -1));
        refused(x, "apart -3 -5", -3, y -> y.apart(199, 199));
        refused(x, "apart -5", -5, y -> y.apart(198, 199));
        refused(x, "wish -2 -5", -2, y -> y.wish(16));
        refused(x, "wish -4 -5", -4, y -> y.wish(12));
        refused(x, "wish -5", -5, y -> y.wish(1));
    }

    private static void ofFullBooths() {
        FirstPolls x = full();
        refused(x, "booth -2 -5", -2, y -> y.booth(16));
        refused(x, "booth -5", -5, y -> y.booth(15));
        refused(x, "box -1 -2 -5", -1, y -> y.box(20, 100_000));
        refused(x, "box -1 -5", -1, y -> y.box(0, -1));
        refused(x, "box -2 -5", -2, y -> y.box(20, 0));
        refused(x, "box -5", -5, y -> y.box(19, 0));
        refused(x, "hand -1 -2 -5", -1, y -> y.hand(40, 20, 0, 0, 0));
        refused(x, "hand -1 -5", -1, y -> y.hand(0, 0, 0, 0, 400));
        refused(x, "hand -2 -5", -2, y -> y.hand(40, 0, 0, 0, 0));
        refused(x, "hand -5", -5, y -> y.hand(39, 0, 0, 0, 0));
        refused(x, "paper -1 -2 -5", -1, y -> y.paper(20, 4, 0, 0));
        refused(x, "paper -1 -5", -1, y -> y.paper(0, 0, 100_001, 0));
        refused(x, "paper -2 -5", -2, y -> y.paper(20, 0, 0, 0));
        refused(x, "paper -5", -5, y -> y.paper(19, 0, 0, 0));
        refused(x, "count -1 -2 -5", -1, y -> y.count(40, 8, 0, 0, 0));
        refused(x, "count -1 -5", -1, y -> y.count(0, 0, 10, 0, 0));
        refused(x, "count -2 -5", -2, y -> y.count(40, 0, 0, 0, 0));
        refused(x, "count -5", -5, y -> y.count(39, 0, 0, 0, 0));
    }

    private static void byWhatStands() {
        FirstPolls x = full();
        refused(x, "off -1 -2", -1, y -> y.off(200, 400, 0));
        refused(x, "off -1 -4", -1, y -> y.off(3, 0, -1));
        refused(x, "off -2", -2, y -> y.off(200, 0, 0));
        refused(x, "off -4", -4, y -> y.off(3, 5, 6));
        refused(x, "moved -1 -2", -1, y -> y.moved(200, 16, -1, 0));
        refused(x, "moved -1 -3 -4", -1, y -> y.moved(4, 4, 400, 0));
        refused(x, "moved -2, no name", -2, y -> y.moved(200, 0, 0, 0));
        refused(x, "moved -2 -4, no place", -2, y -> y.moved(4, 16, 0, 0));
        refused(x, "moved -2, neither", -2, y -> y.moved(-1, -1, 0, 0));
        refused(x, "moved -3 -4", -3, y -> y.moved(4, 4, 0, 0));
        refused(x, "moved -3", -3, y -> y.moved(5, 5, 0, 0));
        refused(x, "moved -4 to another place", -4, y -> y.moved(4, 6, 0, 0));
        refused(x, "moved -4 to the same place", -4, y -> y.moved(4, 5, 5, 6));
        refused(x, "keep -1", -1, y -> y.keep(6, 2));
        refused(x, "keep -4", -4, y -> y.keep(1, 2));
        refused(x, "terms -1", -1, y -> y.terms(20, 10));
        refused(x, "span -1 -2", -1, y -> y.span(7, 5, 4));
        refused(x, "span -2", -2, y -> y.span(7, 4, 4));
        refused(x, "seal -2", -2, y -> y.seal(20));
        refused(x, "alter -1 -2", -1, y -> y.alter(200, 256));
        refused(x, "alter -1", -1, y -> y.alter(199, 0));
        refused(x, "alter -2", -2, y -> y.alter(200, 255));
        refused(x, "image -1", -1, y -> y.image(2));
        refused(x, "back -1", -1, y -> y.back(-1));
        refused(x, "back -2", -2, y -> y.back(1));
    }

    private static void ofASmallLand() {
        FirstPolls x = some();
        Check.tape(x, "on on");
        refused(x, "order -1 -6", -1, y -> y.order(-1));
        refused(x, "row -1", -1, y -> y.row(0, 400));
        refused(x, "row -2", -2, y -> y.row(2, 0));
        refused(x, "apart -2 -3", -2, y -> y.apart(2, 2));
        refused(x, "apart -3", -3, y -> y.apart(0, 0));
        refused(x, "wish -2", -2, y -> y.wish(2));
        refused(x, "wish -4", -4, y -> y.wish(0));
        refused(x, "box -1 -2", -1, y -> y.box(1, 100_000));
        refused(x, "box -2", -2, y -> y.box(1, 0));
        refused(x, "hand -1 -2", -1, y -> y.hand(1, 0, 400, 0, 0));
        refused(x, "hand -2", -2, y -> y.hand(1, 0, 0, 0, 0));
        refused(x, "paper -1 -2", -1, y -> y.paper(1, 0, -1, 0));
        refused(x, "paper -2", -2, y -> y.paper(1, 0, 0, 0));
        refused(x, "count -1 -2", -1, y -> y.count(1, 0, 0, 10_001, 0));
        refused(x, "count -2", -2, y -> y.count(1, 0, 0, 0, 0));
    }

    /** -6 is the one refusal that changes something: the tape is read, and the fault is told. */
    private static void aTextThatCannotBe() {
        FirstPolls x = some();
        x.image(0);
        Check.tape(x, "far 1;most 2;on on");
        Check.refused(x, "order -6", x.order(0), -6);
        Check.due("the tape is empty", x.all(8), 0);
        Check.due("the fault", x.fault(), 16);
        Check.due("no text", x.all(2), 1);
        Check.due("far as it was", x.rule(0, 0, 0, 1), 7);
        Check.due("most as it was", x.rule(0, 0, 0, 0), 1000);
        Check.due("the next text has the next number", Check.orders(x, 0, "most 3"), 1);
        Check.due("and its own clauses", x.rule(0, 0, 0, 0), 3);
        Check.due("and no others", x.force(1, 1, 0), NONE);
    }

    /** Calls that answer that there is none leave the tape, the wishes and the latest as they were. */
    private static void asksThatCannotBe() {
        FirstPolls x = some();
        x.place(2, 90, 90);
        for (int i = 0; i < 20; i++) {
            x.feed(i, i, i, i, i);
        }
        String was = Seen.of(x);
        Check.due("feed a full tape", x.feed(1, 2, 3, 4, 5), NONE);
        Check.due("end", x.end(401), NONE);
        Check.due("end", x.end(-1), NONE);
        Check.due("booths", x.booths(400, 0), NONE);
        Check.due("booths", x.booths(0, -1), NONE);
        Check.due("judge", x.judge(2, 0, 0), NONE);
        Check.due("way", x.way(3, 0), NONE);
        Check.due("way", x.way(0, 400), NONE);
        Check.due("doors", x.doors(0, 0, 0, 0), NONE);
        Check.due("found", x.found(1), -3);
        Check.due("nothing has changed", Seen.of(x).equals(was) ? 1 : 0, 1);
        Check.due("the status neither", x.status(), 0);
        x.end(0);
        x.wish(2);
        x.booth(2);
        x.name(0, 1, 30, 0, ANNA, 0);
        Check.orders(x, 0, "most 1 if names=2");
        was = Seen.of(x);
        Check.due("booths that can't be", x.booths(0, 0), NONE);
        Check.due("a judge that can't be", x.judge(3, 0, 0), NONE);
        Check.due("nothing has changed", Seen.of(x).equals(was) ? 1 : 0, 1);
    }

    /** What status() tells is of the latest call of those that tell one, and of no other call. */
    private static void statusOfEach() {
        FirstPolls x = full();
        Call[] refusals = {y -> y.place(6, 0, 0), y -> y.name(16, 0, 0, 0, ANNA, 0),
            y -> y.row(0, 0), y -> y.off(3, 0, 0), y -> y.moved(4, 4, 0, 0), y -> y.apart(3, 3),
            y -> y.order(0), y -> y.wish(0), y -> y.booth(0), y -> y.box(0, 0),
            y -> y.hand(0, 0, 0, 0, 0), y -> y.paper(0, 0, 0, 0), y -> y.count(0, 0, 0, 0, 0),
            y -> y.keep(1, 2), y -> y.terms(0, 0), y -> y.span(7, 0, 0), y -> y.seal(20),
            y -> y.alter(200, 1), y -> y.image(2), y -> y.back(1)};
        int[] by = {-1, -2, -6, -4, -3, -3, -5, -4, -5, -5, -5, -5, -5, -4, -1, -2, -2, -2, -1, -2};
        for (int i = 0; i < refusals.length; i++) {
            Check.due("terms", x.terms(20, 0), 0);
            Check.due("status of what was not refused", x.status(), 0);
            Check.refused(x, "call " + i, refusals[i].of(x), by[i]);
            Seen.of(x);
            x.feed(0, 0, 0, 0, 0);
            x.end(0);
            x.clear();
            x.booths(0, 0);
            x.way(0, 0);
            x.doors(1, 1, 1, 1);
            Check.due("status stays behind others", x.status(), by[i]);
            for (int wish = 0; wish < 7; wish++) {
                x.wish(2 * wish);
            }
        }
    }

    private static void statusOfWhatIsNotRefused() {
        Call[] calls = {y -> y.place(0, 0, 0), y -> y.name(0, 0, 0, 0, ANNA, 0), y -> y.off(0, 0, 0),
            y -> y.moved(0, 1, 0, 0), y -> y.apart(0, 1), y -> Check.orders(y, 0, "on"),
            y -> y.wish(1), y -> y.booth(0), y -> y.box(0, 0), y -> y.hand(0, 0, 0, 0, 0),
            y -> y.paper(0, 0, 0, 0), y -> y.count(0, 0, 0, 0, 0), y -> y.keep(1, 2),
            y -> y.terms(1, 0), y -> y.span(0, 0, 0), y -> y.seal(0), y -> y.alter(0, 1),
            y -> y.image(0)};
        int[] answers = {2, 2, 0, 0, 1, 1, 2, 1, 1, 2, 2, 1, 0, 0, 0, 1, 11, 0};
        for (int i = 0; i < calls.length; i++) {
            FirstPolls x = some();
            Check.refused(x, "back", x.back(1), -2);
            Check.accepted(x, "call " + i, calls[i].of(x), answers[i]);
        }
        FirstPolls x = some();
        x.image(1);
        x.feed(0, 0, 0, 0, 0);
        Check.refused(x, "back", x.back(0), -2);
        Check.accepted(x, "row", x.row(0, 0), 0);
        Check.refused(x, "back", x.back(0), -2);
        Check.accepted(x, "back", x.back(1), 0);
    }

    public static void main(String[] args) {
        ofAFullLand();
        ofFullBooths();
        byWhatStands();
        ofASmallLand();
        aTextThatCannotBe();
        asksThatCannotBe();
        statusOfEach();
        statusOfWhatIsNotRefused();
        Check.close("RefusalsTest");
    }
}
