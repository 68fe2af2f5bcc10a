import java.util.Random;

/** Ways through up to seven wishes with narrow spans, beside the model, which tries all of them. */
public final class WaysModelTest {
    private static final int ROUNDS = 4;

    private WaysModelTest() {
    }

    private static void compare(long seed, FirstPolls x, Model model, int place, int day) {
        String call = "run " + seed + ": way(" + place + ", " + day + ")";
        Check.due(call, x.way(place, day), model.way(place, day));
        for (int i = 0; i < 8; i++) {
            Check.due(call + " leg " + i, x.leg(i, 0), model.leg(i, 0));
            Check.due(call + " day of leg " + i, x.leg(i, 1), model.leg(i, 1));
        }
    }

    private static void run(long seed) {
        Random random = new Random(seed);
        FirstPolls x = new FirstPolls();
        Model model = new Model();
        int places = 3 + random.nextInt(6);
        int miles = 1 + random.nextInt(60);
        int seats = 1 + random.nextInt(3);
        for (int i = 0; i < places; i++) {
            int seat = random.nextInt(seats);
            int east = random.nextInt(miles);
            int north = random.nextInt(miles);
            x.place(seat, east, north);
            model.place(seat, east, north);
        }
        for (int i = 0; i < 40; i++) {
            int place = random.nextInt(places);
            x.wish(place);
            model.wish(place);
        }
        int pace = 1 + random.nextInt(50);
        int rivers = random.nextInt(10);
        x.terms(pace, rivers);
        model.terms(pace, rivers);
        for (int round = 0; round < ROUNDS; round++) {
            int near = 5 + random.nextInt(60);
            for (int wish = 0; wish < x.all(7); wish++) {
                int first = random.nextInt(near);
                int last = first + random.nextInt(near);
                if (random.nextInt(3) > 0) {
                    x.span(wish, first, last);
                    model.span(wish, first, last);
                }
            }
            int day = random.nextInt(4) == 0 ? 399 - random.nextInt(20) : random.nextInt(near);
            compare(seed, x, model, random.nextInt(places), day);
        }
    }

    public static void main(String[] args) {
        int runs = args.length > 0 ? Integer.parseInt(args[0]) : 1500;
        for (long seed = 1; seed <= runs; seed++) {
            run(seed);
        }
        Check.close("WaysModelTest");
    }
}
