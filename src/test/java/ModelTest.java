import java.lang.reflect.Method;
import java.nio.charset.StandardCharsets;
import java.util.ArrayList;
import java.util.HashMap;
import java.util.List;
import java.util.Map;
import java.util.Random;

/** Long runs of calls, each asked of FirstPolls and of the plain model beside it. */
public final class ModelTest {
    private static final String[] CALLS = {
        "place seat mile mile", "name place house age kind letters day", "off name day day",
        "moved name place day day", "of name what", "where name day day", "on name day day",
        "roll place day day", "like name name", "apart name name", "twice day day index",
        "end bytes", "fault", "force text clause day", "rule place day day what",
        "rule place day day two", "wish place", "clear", "booths day day", "led index",
        "judge bits day day", "booth place", "box booth seal", "hand box hand day seal day",
        "held box day day", "broken box day two", "paper booth three papers day",
        "count box symbol mark papers day", "tells booth day day what", "keep seat symbol",
        "seat seat day day what", "hidden booth symbol day day bit", "shares seats symbol day day",
        "terms pace rivers", "span index day day", "span wish day late", "way place day", "leg index bit",
        "doors many drawn drawn bit", "seal booth", "alter telling mask", "found booth", "image bit",
        "back bit", "all what", "status"};
    private static final Map<String, Method> OURS = methods(FirstPolls.class);
    private static final Map<String, Method> MODELS = methods(Model.class);

    private final Random random;
    private final FirstPolls ours = new FirstPolls();
    private final Model model = new Model();
    private final StringBuilder told = new StringBuilder();
    private final Texts texts;
    private final boolean wide;
    private final int days;
    private final List<String> calls = new ArrayList<>();
    private int wrong = 0;

    private ModelTest(long seed) {
        random = new Random(seed);
        texts = new Texts(random);
        wide = random.nextInt(3) == 0;
        days = random.nextInt(4) == 0 ? 400 : 3 + random.nextInt(20);
        told.append("run ").append(seed).append('\n');
        // A run of a part of the calls alone goes deeper into these.
        int part = 1 + random.nextInt(4);
        for (String call : CALLS) {
            if (random.nextInt(part) == 0) {
                calls.add(call);
            }
        }
        if (calls.isEmpty()) {
            calls.addAll(List.of(CALLS));
        }
    }

    private static Map<String, Method> methods(Class<?> of) {
        Map<String, Method> all = new HashMap<>();
        for (Method method : of.getDeclaredMethods()) {
            if (java.lang.reflect.Modifier.isPublic(method.getModifiers())) {
                all.put(method.getName(), method);
            }
        }
        return all;
    }

    private int ask(String call, int... args) {
        Object[] boxed = new Object[args.length];
        StringBuilder line = new StringBuilder(call).append('(');
        for (int i = 0; i < args.length; i++) {
            boxed[i] = args[i];
            line.append(i == 0 ? "" : ", ").append(args[i]);
        }
        line.append(')');
        try {
            int got = (Integer) OURS.get(call).invoke(ours, boxed);
            int want = (Integer) MODELS.get(call).invoke(model, boxed);
            told.append("  ").append(line).append(" -> ").append(got).append('\n');
            if (got != want && wrong++ == 0) {
                System.out.print(told);
            }
            Check.due(line.toString(), got, want);
            return got;
        } catch (ReflectiveOperationException e) {
            throw new IllegalStateException(told.toString(), e);
        }
    }

    private int up(int bound) {
        return random.nextInt(Math.max(1, bound));
    }

    private int number(String of) {
        if (up(60) == 0) {
            int[] odd = {-1, -2, Integer.MIN_VALUE, Integer.MAX_VALUE, 400, 16, 7, 8, 6, 20, 200};
            return odd[up(odd.length)];
        }
        switch (of) {
            case "seat": return wide ? up(6) : up(2);
            case "mile": return wide ? up(100) : up(12);
            case "place": return up(ours.all(0) + (up(9) == 0 ? 1 : 0));
            case "house": return up(3);
            case "age": return 15 + up(12);
            case "kind": return up(4);
            case "letters": return Check.letters("ann" + (char) ('a' + up(2)));
            case "day": return up(days);
            case "name": return up(ours.all(1) + (up(9) == 0 ? 1 : 0));
            case "what": return up(12);
            case "two": return up(3);
            case "three": return up(4);
            case "bit": return up(2);
            case "index": return up(9) - 1;
            case "wish": return up(ours.all(7) + (up(9) == 0 ? 1 : 0));
            case "late": return days - 1 + up(401 - days);
            case "bytes": return up(ours.all(8) + 2);
            case "text": return up(ours.all(2) + 1);
            case "clause": return up(5);
            case "bits": return up(1 << Math.min(7, ours.all(7)));
            case "booth": return up(ours.all(3) + (up(9) == 0 ? 1 : 0));
            case "box": return up(ours.all(4) + (up(9) == 0 ? 1 : 0));
            case "seal": return up(2);
            case "hand": return up(20);
            case "papers": return wide ? up(10_001) : up(4);
            case "symbol": return wide ? up(8) : up(3);
            case "mark": return wide ? up(10) : up(3);
            case "seats": return 1 + up(20);
            case "pace": return 1 + up(50);
            case "rivers": return up(10);
            case "many": return 1 + up(60);
            case "drawn": return up(13);
            case "telling": return up(ours.all(6) + (up(9) == 0 ? 1 : 0));
            case "mask": return 1 + up(3);
            default: throw new IllegalArgumentException(of);
        }
    }

    private void tape(byte[] bytes) {
        int had = ours.all(8);
        for (int i = 0; i < bytes.length && had + i + 20 <= 400; i += 20) {
            int[] five = new int[5];
            for (int j = 0; j < 20; j++) {
                int b = i + j < bytes.length ? bytes[i + j] & 255 : 32;
                five[j / 4] = (five[j / 4] << 8) | b;
            }
            ask("feed", five);
        }
        ask("end", Math.min(400, had + bytes.length));
    }

    private void tellOrder() {
        if (up(10) != 0) {
            ask("end", 0);
        }
        String text = up(4) == 0 ? texts.spoilt() : texts.text();
        told.append("  '").append(text).append("'\n");
        tape(text.getBytes(StandardCharsets.ISO_8859_1));
        ask("order", number("day"));
        ask("fault");
    }

    private void tellRow() {
        byte[] bytes = new byte[up(60)];
        for (int i = 0; i < bytes.length; i++) {
            int[] sorts = {up(3), 15 + up(12), up(4), 'a', 'n', 'n', 'a' + up(2)};
            bytes[i] = (byte) (up(50) == 0 ? up(256) : sorts[i % 7]);
        }
        tape(bytes);
        ask("row", number("place"), number("day"));
    }

    private void tellSomething() {
        String[] call = calls.get(up(calls.size())).split(" ");
        // Trying all booths of seven wishes takes the model long.
        boolean dear = call[0].equals("booths") || call[0].equals("judge") || call[0].equals("way");
        if (dear && ours.all(7) > 5 && up(12) != 0) {
            return;
        }
        if (up(rarity(call[0])) != 0) {
            return;
        }
        int[] args = new int[call.length - 1];
        for (int i = 0; i < args.length; i++) {
            args[i] = number(call[i + 1]);
        }
        ask(call[0], args);
        if (call[0].equals("booths")) {
            for (int i = -1; i < 8; i++) {
                ask("led", i);
            }
        }
        if (call[0].equals("way")) {
            for (int i = 0; i < 8; i++) {
                ask("leg", i, 0);
                ask("leg", i, 1);
            }
        }
    }

    // What undoes much is told seldom, so that much can stand.
    private static int rarity(String call) {
        return switch (call) {
            case "clear" -> 12;
            case "off", "back", "keep" -> 5;
            case "image", "place", "terms", "moved" -> 3;
            default -> 1;
        };
    }

    private void begin() {
        if (up(4) != 0) {
            tape("on;on if age>1".getBytes(StandardCharsets.ISO_8859_1));
            ask("order", 0);
        }
        for (int i = 0; i < 4 + up(5); i++) {
            ask("place", number("seat"), number("mile"), number("mile"));
        }
        for (int i = 0; i < 3 + up(4); i++) {
            ask("booth", number("place"));
            ask("box", i, number("seal"));
        }
        for (int i = up(10); i > 0; i--) {
            ask("wish", number("place"));
        }
        for (int i = up(3) == 0 ? 0 : up(30); i > 0; i--) {
            ask("name", number("place"), number("house"), number("age"), number("kind"),
                    number("letters"), number("day"));
        }
    }

    private void run(int calls) {
        begin();
        for (int i = 0; i < calls && wrong == 0; i++) {
            int which = up(40);
            if (which == 0) {
                tellOrder();
            } else if (which == 1) {
                tellRow();
            } else {
                tellSomething();
            }
        }
    }

    public static void main(String[] args) {
        int runs = args.length > 0 ? Integer.parseInt(args[0]) : 250;
        long first = args.length > 1 ? Long.parseLong(args[1]) : 1;
        for (long seed = first; seed < first + runs; seed++) {
            new ModelTest(seed).run(450);
        }
        Check.close("ModelTest");
    }
}
