import java.util.function.Supplier;

/** Every number that a call takes, at the edges of what it may be and just beyond them. */
public final class EdgesTest {
    private static final int NONE = FirstPolls.NONE;
    private static final int NOTHING = Check.NOTHING;
    private static final int ANNA = Check.letters("anna");
    private static final int LAST_DAY = 399;

    private interface Call {
        int with(FirstPolls x, int n);
    }

    /** Some of everything, so that each question has an answer other than that there is none. */
    private static FirstPolls land() {
        FirstPolls x = new FirstPolls();
        x.place(0, 0, 0);
        x.place(1, 10, 0);
        x.place(5, 20, 0);
        Check.orders(x, 0, "on;void 9");
        Check.orders(x, 0, "few 1");
        for (int i = 0; i < 4; i++) {
            x.name(i % 3, 1, 30, 0, ANNA, 0);
        }
        for (int i = 0; i < 3; i++) {
            x.booth(i);
            x.box(i, 7);
            x.hand(i, 1, 0, 7, 0);
            x.hand(i, 2, 0, 8, 0);
            x.count(i, i, 0, 5, 0);
            x.seal(i);
            x.wish(i);
        }
        x.booths(0, 0);
        x.way(0, 0);
        x.image(0);
        x.image(1);
        x.feed(0x01020061, 0x61616100, 0, 0, 0);
        return x;
    }

    private static void probe(String call, Call asked, int n, int refusal, boolean refused) {
        FirstPolls x = land();
        int got = asked.with(x, n);
        Check.due(call + " with " + n + " answered " + got + ", refused", got == refusal ? 1 : 0,
                refused ? 1 : 0);
    }

    /** It answers from low to high, and is refused by every number beyond, far or near. */
    private static void within(String call, int refusal, int low, int high, Call asked) {
        probe(call, asked, low, refusal, false);
        probe(call, asked, high, refusal, false);
        int[] beyond = {low - 1, low - 2, high + 1, high + 2, low - 256, high + 256, low - 65_536,
            high + 65_536, low ^ Integer.MIN_VALUE, high ^ Integer.MIN_VALUE, Integer.MIN_VALUE,
            Integer.MAX_VALUE, Integer.MIN_VALUE + 1, Integer.MAX_VALUE - 1};
        for (int n : beyond) {
            if (n < low || n > high) {
                probe(call, asked, n, refusal, true);
            }
        }
    }

    /** The same, of a call of which status() tells by what it was refused. */
    private static void tells(String call, int refusal, int low, int high, Call asked) {
        within(call, refusal, low, high, asked);
        int[] all = {low, high, low - 1, high + 1};
        for (int i = 0; i < all.length; i++) {
            FirstPolls x = land();
            asked.with(x, all[i]);
            Check.due("status() behind " + call + " with " + all[i], x.status(), i < 2 ? 0 : refusal);
        }
    }

    private static void day(String call, int refusal, Call asked) {
        within("the day of " + call, refusal, 0, LAST_DAY, asked);
    }

    private static void days(String call, int refusal, Call asked) {
        tells("the day of " + call, refusal, 0, LAST_DAY, asked);
    }

    private static void placesAndNames() {
        tells("seat of place", -1, 0, 5, (x, n) -> x.place(n, 0, 0));
        tells("x of place", -1, 0, 99, (x, n) -> x.place(0, n, 0));
        tells("y of place", -1, 0, 99, (x, n) -> x.place(0, 0, n));
        tells("place of name", -2, 0, 2, (x, n) -> x.name(n, 0, 0, 0, ANNA, 0));
        tells("house of name", -1, 0, 99, (x, n) -> x.name(0, n, 0, 0, ANNA, 0));
        tells("age of name", -1, 0, 120, (x, n) -> x.name(0, 0, n, 0, ANNA, 0));
        tells("kind of name", -1, 0, 3, (x, n) -> x.name(0, 0, 0, n, ANNA, 0));
        days("name", -1, (x, n) -> x.name(0, 0, 0, 0, ANNA, n));
        tells("place of row", -2, 0, 2, (x, n) -> x.row(n, 0));
        days("row", -1, (x, n) -> x.row(0, n));
        tells("name of off", -2, 0, 3, (x, n) -> x.off(n, 0, 0));
        days("off", -1, (x, n) -> x.off(0, n, 0));
        days("off", -1, (x, n) -> x.off(0, 0, n));
        tells("name of moved", -2, 0, 3, (x, n) -> x.moved(n, n == 1 ? 0 : 1, 0, 0));
        tells("place of moved", -2, 0, 2, (x, n) -> x.moved(1, n, 0, 0));
        days("moved", -1, (x, n) -> x.moved(0, 1, n, 0));
        days("moved", -1, (x, n) -> x.moved(0, 1, 0, n));
    }

    private static void asksOfNames() {
        within("name of of", NONE, 0, 3, (x, n) -> x.of(n, 4));
        within("what of of", NONE, 0, 4, (x, n) -> x.of(0, n));
        within("name of where", NONE, 0, 3, (x, n) -> x.where(n, 0, 0));
        day("where", NONE, (x, n) -> x.where(0, n, 0));
        day("where", NONE, (x, n) -> x.where(0, 0, n));
        within("name of on", NONE, 0, 3, (x, n) -> x.on(n, 0, 0));
        day("on", NONE, (x, n) -> x.on(0, n, 0));
        day("on", NONE, (x, n) -> x.on(0, 0, n));
        within("place of roll", NONE, 0, 2, (x, n) -> x.roll(n, 0, 0));
        day("roll", NONE, (x, n) -> x.roll(0, n, 0));
        day("roll", NONE, (x, n) -> x.roll(0, 0, n));
        within("the first of like", NONE, 0, 3, (x, n) -> x.like(n, 1));
        within("the other of like", NONE, 0, 3, (x, n) -> x.like(1, n));
        tells("the first of apart", -2, 0, 3, (x, n) -> x.apart(n, 1));
        tells("the other of apart", -2, 0, 3, (x, n) -> x.apart(1, n));
        day("twice", NONE, (x, n) -> x.twice(n, 0, 0));
        day("twice", NONE, (x, n) -> x.twice(0, n, 0));
        day("twice, how many", NONE, (x, n) -> x.twice(n, 0, NONE));
        day("twice, how many", NONE, (x, n) -> x.twice(0, n, NONE));
        within("i of twice", NONE, -1, 4, (x, n) -> x.twice(0, 0, n));
    }

    private static void tapeAndOrders() {
        within("n of end", NONE, 0, 20, FirstPolls::end);
        days("order", -1, (x, n) -> {
            x.end(0);
            return Check.orders(x, n, "on");
        });
        within("text of force", NONE, 0, 1, (x, n) -> x.force(n, 0, 0));
        within("clause of force", NONE, 0, 1, (x, n) -> x.force(0, n, 0));
        within("clause of a later force", NONE, 0, 0, (x, n) -> x.force(1, n, 0));
        day("force", NONE, (x, n) -> x.force(0, 0, n));
        for (int what = 0; what < 3; what++) {
            int asked = what;
            day("rule " + what, NONE, (x, n) -> x.rule(0, n, 0, asked));
            day("rule " + what, NONE, (x, n) -> x.rule(0, 0, n, asked));
        }
        within("place of most", NONE, 0, 2, (x, n) -> x.rule(n, 0, 0, 0));
        within("place of far", NONE, 0, 2, (x, n) -> x.rule(n, 0, 0, 1));
        within("what of rule", NONE, 0, 2, (x, n) -> x.rule(0, 0, 0, n));
        for (int place : new int[] {Integer.MIN_VALUE, -1, 3, 16, Integer.MAX_VALUE}) {
            Check.due("few, whatever the place is", land().rule(place, 0, 0, 2), 1);
        }
    }

    private static void wishesAndBooths() {
        tells("place of wish", -2, 0, 2, (x, n) -> {
            x.clear();
            return x.wish(n);
        });
        day("booths", NONE, (x, n) -> x.booths(n, 0));
        day("booths", NONE, (x, n) -> x.booths(0, n));
        within("i of led", NONE, -1, 2, FirstPolls::led);
        within("bits of judge", NONE, 1, 7, (x, n) -> x.judge(n, 0, 0));
        day("judge", NONE, (x, n) -> x.judge(1, n, 0));
        day("judge", NONE, (x, n) -> x.judge(1, 0, n));
        tells("place of booth", -2, 0, 2, FirstPolls::booth);
        tells("booth of box", -2, 0, 2, (x, n) -> x.box(n, 0));
        tells("seal of box", -1, 0, 99_999, (x, n) -> x.box(0, n));
        tells("box of hand", -2, 0, 2, (x, n) -> x.hand(n, 0, 0, 0, 0));
        tells("hand of hand", -1, 0, 19, (x, n) -> x.hand(0, n, 0, 0, 0));
        days("hand", -1, (x, n) -> x.hand(0, 0, n, 0, 0));
        tells("seal of hand", -1, 0, 99_999, (x, n) -> x.hand(0, 0, 0, n, 0));
        days("hand", -1, (x, n) -> x.hand(0, 0, 0, 0, n));
        within("box of held", NONE, 0, 2, (x, n) -> x.held(n, 0, 0));
        day("held", NONE, (x, n) -> x.held(0, n, 0));
        day("held", NONE, (x, n) -> x.held(0, 0, n));
        within("box of broken", NONE, 0, 2, (x, n) -> x.broken(n, 0, 0));
        for (int what = 0; what < 3; what++) {
            int asked = what;
            day("broken", NONE, (x, n) -> x.broken(0, n, asked));
        }
        within("what of broken", NONE, 0, 2, (x, n) -> x.broken(0, 0, n));
    }

    private static void papersAndCounts() {
        tells("booth of paper", -2, 0, 2, (x, n) -> x.paper(n, 0, 0, 0));
        tells("what of paper", -1, 0, 3, (x, n) -> x.paper(0, n, 0, 0));
        tells("n of paper", -1, 0, 100_000, (x, n) -> x.paper(0, 0, n, 0));
        days("paper", -1, (x, n) -> x.paper(0, 0, 0, n));
        tells("box of count", -2, 0, 2, (x, n) -> x.count(n, 0, 0, 0, 0));
        tells("symbol of count", -1, 0, 7, (x, n) -> x.count(0, n, 0, 0, 0));
        tells("mark of count", -1, 0, 9, (x, n) -> x.count(0, 0, n, 0, 0));
        tells("n of count", -1, 0, 10_000, (x, n) -> x.count(0, 0, 0, n, 0));
        days("count", -1, (x, n) -> x.count(0, 0, 0, 0, n));
        within("booth of tells", NOTHING, 0, 2, (x, n) -> x.tells(n, 0, 0, 0));
        within("what of tells", NOTHING, 0, 8, (x, n) -> x.tells(0, 0, 0, n));
        day("tells", NOTHING, (x, n) -> x.tells(0, n, 0, 0));
        day("tells", NOTHING, (x, n) -> x.tells(0, 0, n, 0));
        tells("seat of keep", -1, 0, 5, (x, n) -> x.keep(n, 0));
        tells("symbol of keep", -1, 0, 7, (x, n) -> x.keep(0, n));
        within("seat of seat", NOTHING, 0, 5, (x, n) -> x.seat(n, 0, 0, 0));
        within("what of seat", NOTHING, 0, 10, (x, n) -> x.seat(0, 0, 0, n));
        day("seat", NOTHING, (x, n) -> x.seat(0, n, 0, 0));
        day("seat", NOTHING, (x, n) -> x.seat(0, 0, n, 0));
        for (int what = 0; what < 2; what++) {
            int asked = what;
            within("booth of hidden", NONE, 0, 2, (x, n) -> x.hidden(n, 0, 0, 0, asked));
            within("symbol of hidden", NONE, 0, 7, (x, n) -> x.hidden(0, n, 0, 0, asked));
            day("hidden", NONE, (x, n) -> x.hidden(0, 0, n, 0, asked));
            day("hidden", NONE, (x, n) -> x.hidden(0, 0, 0, n, asked));
        }
        within("what of hidden", NONE, 0, 1, (x, n) -> x.hidden(0, 0, 0, 0, n));
        within("n of shares", NONE, 1, 20, (x, n) -> x.shares(n, 0, 0, 0));
        within("symbol of shares", NONE, 0, 7, (x, n) -> x.shares(1, n, 0, 0));
        day("shares", NONE, (x, n) -> x.shares(1, 0, n, 0));
        day("shares", NONE, (x, n) -> x.shares(1, 0, 0, n));
    }

    private static void waysAndDoors() {
        tells("pace of terms", -1, 1, 50, (x, n) -> x.terms(n, 0));
        tells("rivers of terms", -1, 0, 9, (x, n) -> x.terms(1, n));
        tells("wish of span", -2, 0, 2, (x, n) -> x.span(n, 0, 0));
        tells("first of span", -1, 0, LAST_DAY, (x, n) -> x.span(0, n, LAST_DAY));
        tells("last of span", -1, 0, LAST_DAY, (x, n) -> x.span(0, 0, n));
        tells("first of span", -1, 0, 200, (x, n) -> x.span(0, n, 200));
        tells("last of span", -1, 200, LAST_DAY, (x, n) -> x.span(0, 200, n));
        within("place of way", NONE, 0, 2, (x, n) -> x.way(n, 0));
        day("way", NONE, (x, n) -> x.way(0, n));
        within("i of leg", NONE, 0, 2, (x, n) -> x.leg(n, 0));
        within("i of leg", NONE, 0, 2, (x, n) -> x.leg(n, 1));
        within("what of leg", NONE, 0, 1, (x, n) -> x.leg(0, n));
        for (int what = 0; what < 2; what++) {
            int asked = what;
            within("all of doors", NONE, 1, 60, (x, n) -> x.doors(n, 1, 0, asked));
            within("all of doors", NONE, 12, 60, (x, n) -> x.doors(n, 12, 0, asked));
            within("drawn of doors", NONE, 1, 12, (x, n) -> x.doors(60, n, 0, asked));
            within("drawn of doors", NONE, 1, 5, (x, n) -> x.doors(5, n, 0, asked));
            within("had of doors", NONE, 0, 12, (x, n) -> x.doors(60, 12, n, asked));
            within("had of doors", NONE, 0, 1, (x, n) -> x.doors(60, 1, n, asked));
        }
        within("what of doors", NONE, 0, 1, (x, n) -> x.doors(60, 12, 6, n));
    }

    private static void sealsAndImages() {
        tells("booth of seal", -2, 0, 2, FirstPolls::seal);
        tells("telling of alter", -2, 0, 2, (x, n) -> x.alter(n, 1));
        tells("mask of alter", -1, 1, 255, (x, n) -> x.alter(0, n));
        within("booth of found", -3, 0, 2, FirstPolls::found);
        tells("k of image", -1, 0, 1, FirstPolls::image);
        tells("k of back", -1, 0, 1, FirstPolls::back);
        within("what of all", NONE, 0, 8, FirstPolls::all);
    }

    /** Each question in a land where nothing was told. */
    private static void emptyLand() {
        Supplier<FirstPolls> empty = FirstPolls::new;
        Check.due("of", empty.get().of(0, 0), NONE);
        Check.due("where", empty.get().where(0, 0, 0), NONE);
        Check.due("on", empty.get().on(0, 0, 0), NONE);
        Check.due("roll", empty.get().roll(0, 0, 0), NONE);
        Check.due("like", empty.get().like(0, 1), NONE);
        Check.due("twice", empty.get().twice(0, 0, NONE), 0);
        Check.due("twice", empty.get().twice(0, 0, 0), NONE);
        Check.due("end", empty.get().end(0), 0);
        Check.due("end", empty.get().end(1), NONE);
        Check.due("fault", empty.get().fault(), NONE);
        Check.due("force", empty.get().force(0, 0, 0), NONE);
        Check.due("most", empty.get().rule(0, 0, 0, 0), NONE);
        Check.due("far", empty.get().rule(0, 0, 0, 1), NONE);
        Check.due("few", empty.get().rule(0, 0, 0, 2), 0);
        Check.due("clear", empty.get().clear(), 0);
        Check.due("booths", empty.get().booths(0, 0), 0);
        Check.due("led", empty.get().led(NONE), NONE);
        Check.due("judge", empty.get().judge(0, 0, 0), 0);
        Check.due("judge", empty.get().judge(1, 0, 0), NONE);
        Check.due("held", empty.get().held(0, 0, 0), NONE);
        Check.due("broken", empty.get().broken(0, 0, 0), NONE);
        Check.due("tells", empty.get().tells(0, 0, 0, 0), NOTHING);
        for (int what = 0; what < 11; what++) {
            Check.due("seat", empty.get().seat(0, 0, 0, what), what == 8 ? NONE : 0);
        }
        Check.due("hidden", empty.get().hidden(0, 0, 0, 0, 0), NONE);
        Check.due("shares", empty.get().shares(1, 0, 0, 0), NONE);
        Check.due("way", empty.get().way(0, 0), NONE);
        Check.due("leg", empty.get().leg(0, 0), NONE);
        Check.due("found", empty.get().found(0), -3);
        Check.due("status", empty.get().status(), 0);
    }

    public static void main(String[] args) {
        placesAndNames();
        asksOfNames();
        tapeAndOrders();
        wishesAndBooths();
        papersAndCounts();
        waysAndDoors();
        sealsAndImages();
        emptyLand();
        Check.close("EdgesTest");
    }
}
