import java.lang.management.ManagementFactory;
import java.lang.reflect.Method;
import java.lang.reflect.Modifier;
import java.util.ArrayList;
import java.util.List;
import java.util.Random;

/** No call throws whatever it is given in whatever state, and none makes more than it should. */
public final class RoomTest {
    private static final int[] ODD = {Integer.MIN_VALUE, Integer.MIN_VALUE + 1, -2_000_000_000, -400,
        -2, -1, 0, 1, 2, 3, 4, 5, 6, 7, 8, 9, 10, 11, 12, 15, 16, 19, 20, 39, 40, 60, 99, 100, 120,
        127, 128, 199, 200, 255, 256, 399, 400, 401, 10_000, 99_999, 100_000, 1_000_000_000,
        Integer.MAX_VALUE - 1, Integer.MAX_VALUE};

    private static List<Method> calls() {
        List<Method> all = new ArrayList<>();
        for (Method method : FirstPolls.class.getDeclaredMethods()) {
            if (Modifier.isPublic(method.getModifiers())) {
                all.add(method);
            }
        }
        all.sort((a, b) -> a.getName().compareTo(b.getName()));
        return all;
    }

    /** As much as there can be of everything, in an order that the random gives. */
    static FirstPolls full(Random random) {
        FirstPolls x = new FirstPolls();
        for (int i = 0; i < 16; i++) {
            x.place(random.nextInt(6), random.nextInt(100), random.nextInt(100));
        }
        Texts texts = new Texts(random);
        Check.orders(x, 0, "on;void 3 if put>5;again if lost>2;most 10+names;far 60;few 30");
        for (int i = 0; i < 30; i++) {
            x.end(0);
            Check.orders(x, random.nextInt(400), texts.text());
        }
        x.end(0);
        for (int i = 0; i < 200; i++) {
            x.name(random.nextInt(16), random.nextInt(3), 20 + random.nextInt(5), random.nextInt(4),
                    Check.letters("anna"), random.nextInt(400));
            x.off(i, 200 + random.nextInt(200), random.nextInt(400));
            x.moved(i, random.nextInt(16), random.nextInt(400), random.nextInt(400));
        }
        for (int i = 0; i < 40; i++) {
            x.apart(random.nextInt(200), random.nextInt(200));
            x.booth(random.nextInt(16));
            x.box(random.nextInt(20), random.nextInt(3));
            x.wish(random.nextInt(16));
        }
        for (int i = 0; i < 200; i++) {
            x.hand(random.nextInt(40), random.nextInt(20), random.nextInt(400), random.nextInt(3),
                    random.nextInt(400));
            x.paper(random.nextInt(20), random.nextInt(4), random.nextInt(100_001),
                    random.nextInt(400));
            x.count(random.nextInt(40), random.nextInt(8), random.nextInt(10),
                    random.nextInt(10_001), random.nextInt(400));
        }
        return x;
    }

    private static void nothingIsThrown(long seed, boolean full) {
        Random random = new Random(seed);
        FirstPolls x = full ? full(random) : new FirstPolls();
        List<Method> calls = calls();
        for (int i = 0; i < 700; i++) {
            Method call = calls.get(random.nextInt(calls.size()));
            Object[] args = new Object[call.getParameterCount()];
            for (int j = 0; j < args.length; j++) {
                args[j] = random.nextInt(20) == 0 ? random.nextInt()
                        : random.nextInt(2) == 0 ? ODD[random.nextInt(ODD.length)]
                        : random.nextInt(8);
            }
            try {
                call.invoke(x, args);
                Check.due("thrown", 0, 0);
            } catch (ReflectiveOperationException e) {
                Check.due("run " + seed + ": " + call.getName() + " threw " + e.getCause(), 1, 0);
            }
        }
    }

    private static long made() {
        return ((com.sun.management.ThreadMXBean) ManagementFactory.getThreadMXBean())
                .getThreadAllocatedBytes(Thread.currentThread().getId());
    }

    private static int askAll(FirstPolls x, int i) {
        int day = 3 * i % 400;
        int sum = x.booths(day, 399) + x.judge(i % 128, day, 399) + x.way(i % 16, 0) + x.led(0);
        sum += x.twice(day, 399, -1) + x.roll(i % 16, day, 399) + x.rule(i % 16, day, 399, 0);
        sum += x.tells(i % 20, day, 399, 8) + x.seat(i % 6, day, 399, 10) + x.leg(0, 0);
        sum += x.hidden(i % 20, i % 8, day, 399, 0) + x.shares(20, i % 8, day, 399);
        sum += x.doors(60, 12, i % 13, 0) + x.found(i % 20) + x.seal(i % 20) + x.alter(i, 7);
        sum += x.feed(1869488233, 1713398119, 1696611872, 842021743, 1847617894) + x.order(0);
        return sum + x.image(i % 2) + x.back(i % 2) + x.on(i, day, 399) + x.like(i, i + 1);
    }

    private static void littleIsMade() {
        FirstPolls x = full(new Random(1));
        askAll(x, 0);
        askAll(x, 1);
        long before = made();
        int sum = 0;
        for (int i = 2; i < 100; i++) {
            sum += askAll(x, i);
        }
        long more = made() - before;
        Check.due("bytes made by calls, " + more + ", sum " + sum, more < 10_000 ? 1 : 0, 1);
        before = made();
        FirstPolls y = new FirstPolls();
        more = made() - before;
        Check.due("bytes made by an object, " + more + y.all(0), more < 400_000 ? 1 : 0, 1);
    }

    public static void main(String[] args) {
        int runs = args.length > 0 ? Integer.parseInt(args[0]) : 60;
        for (int seed = 1; seed <= runs; seed++) {
            nothingIsThrown(seed, seed % 2 == 0);
        }
        littleIsMade();
        Check.close("RoomTest");
    }
}
