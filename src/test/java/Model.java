import java.math.BigInteger;
import java.util.ArrayList;
import java.util.Arrays;
import java.util.HashMap;
import java.util.HashSet;
import java.util.List;
import java.util.Map;
import java.util.Set;

/**
 * The document once more, as plainly as can be and in another way than FirstPolls: every answer is
 * reckoned anew from lists of what was told, by trying all that can be tried.
 */
public final class Model {
    private static final int NONE = -1;
    private static final int NOTHING = -2_000_000_000;

    /** What an image keeps: rows of numbers, and the texts' tokens. */
    private static final class State {
        List<int[]> places = new ArrayList<>();
        List<int[]> names = new ArrayList<>();
        List<int[]> offs = new ArrayList<>();
        List<int[]> moves = new ArrayList<>();
        List<int[]> bars = new ArrayList<>();
        List<List<List<String>>> texts = new ArrayList<>();
        List<int[]> froms = new ArrayList<>();
        List<int[]> booths = new ArrayList<>();
        List<int[]> boxes = new ArrayList<>();
        List<int[]> handed = new ArrayList<>();
        List<int[]> papers = new ArrayList<>();
        List<int[]> counts = new ArrayList<>();
        List<int[]> keeps = new ArrayList<>();
        Map<Integer, int[]> seals = new HashMap<>();
        int pace = 20;
        int rivers = 0;

        State copy() {
            State s = new State();
            s.places = rows(places);
            s.names = rows(names);
            s.offs = rows(offs);
            s.moves = rows(moves);
            s.bars = rows(bars);
            s.texts = new ArrayList<>(texts);
            s.froms = rows(froms);
            s.booths = rows(booths);
            s.boxes = rows(boxes);
            s.handed = rows(handed);
            s.papers = rows(papers);
            s.counts = rows(counts);
            s.keeps = rows(keeps);
            s.seals = new HashMap<>(seals);
            s.pace = pace;
            s.rivers = rivers;
            return s;
        }

        private static List<int[]> rows(List<int[]> rows) {
            List<int[]> copies = new ArrayList<>();
            for (int[] row : rows) {
                copies.add(row.clone());
            }
            return copies;
        }
    }

    /** A sum or a test that is broken. */
    private static final class BrokenSum extends RuntimeException {
        private static final long serialVersionUID = 1L;
    }

    private State s = new State();
    private final State[] images = new State[2];
    private final List<Integer> tape = new ArrayList<>();
    private int fault = NONE;
    private final List<Integer> wishes = new ArrayList<>();
    private final List<int[]> spans = new ArrayList<>();
    private List<Integer> ledRow = null;
    private int ledSum = NONE;
    private List<int[]> legs = new ArrayList<>();
    private int status = 0;

    private int no(int by) {
        status = by;
        return by;
    }

    private int yes(int answer) {
        status = 0;
        return answer;
    }

    private static boolean in(int n, int low, int high) {
        return n >= low && n <= high;
    }

    private static boolean days(int... ds) {
        for (int d : ds) {
            if (!in(d, 0, 399)) {
                return false;
            }
        }
        return true;
    }

    private static boolean has(List<?> list, int i) {
        return i >= 0 && i < list.size();
    }

    private static boolean written(int letters) {
        for (int i = 0; i < 4; i++) {
            int c = (letters >> (8 * i)) & 255;
            if (c < 'a' || c > 'z') {
                return false;
            }
        }
        return true;
    }

    public int place(int seat, int x, int y) {
        if (!in(seat, 0, 5) || !in(x, 0, 99) || !in(y, 0, 99)) {
            return no(-1);
        }
        if (s.places.size() == 16) {
            return no(-5);
        }
        s.places.add(new int[] {seat, x, y});
        return yes(s.places.size() - 1);
    }

    private static boolean can(int house, int age, int kind, int letters) {
        return in(house, 0, 99) && in(age, 0, 120) && in(kind, 0, 3) && written(letters);
    }

    public int name(int place, int house, int age, int kind, int letters, int known) {
        if (!can(house, age, kind, letters) || !days(known)) {
            return no(-1);
        }
        if (!has(s.places, place)) {
            return no(-2);
        }
        if (s.names.size() == 200) {
            return no(-5);
        }
        s.names.add(new int[] {place, house, age, kind, letters, known});
        return yes(s.names.size() - 1);
    }

    public int row(int place, int known) {
        if (!days(known)) {
            return no(-1);
        }
        if (!has(s.places, place)) {
            return no(-2);
        }
        if (s.names.size() + tape.size() / 7 > 200) {
            return no(-5);
        }
        if (tape.isEmpty()) {
            return no(-6);
        }
        int n = 0;
        while (tape.size() >= 7) {
            int letters = 0;
            for (int i = 3; i < 7; i++) {
                letters = letters * 256 + tape.get(i);
            }
            if (can(tape.get(0), tape.get(1), tape.get(2), letters)) {
                s.names.add(new int[] {place, tape.get(0), tape.get(1), tape.get(2), letters, known});
                n++;
            }
            tape.subList(0, 7).clear();
        }
        tape.clear();
        return yes(n);
    }

    private static int[] find(List<int[]> rows, int first) {
        for (int[] row : rows) {
            if (row[0] == first) {
                return row;
            }
        }
        return null;
    }

    public int off(int name, int day, int known) {
        if (!days(day, known)) {
            return no(-1);
        }
        if (!has(s.names, name)) {
            return no(-2);
        }
        if (find(s.offs, name) != null) {
            return no(-4);
        }
        s.offs.add(new int[] {name, day, known});
        return yes(0);
    }

    public int moved(int name, int place, int day, int known) {
        if (!days(day, known)) {
            return no(-1);
        }
        if (!has(s.names, name) || !has(s.places, place)) {
            return no(-2);
        }
        if (s.names.get(name)[0] == place) {
            return no(-3);
        }
        if (find(s.moves, name) != null) {
            return no(-4);
        }
        s.moves.add(new int[] {name, day, known, place});
        return yes(0);
    }

    public int of(int name, int what) {
        return has(s.names, name) && in(what, 0, 4) ? s.names.get(name)[what] : NONE;
    }

    private boolean come(List<int[]> rows, int name, int day, int known) {
        int[] row = find(rows, name);
        return row != null && row[1] <= day && row[2] <= known;
    }

    public int where(int name, int day, int known) {
        if (!days(day, known) || !has(s.names, name) || s.names.get(name)[5] > known) {
            return NONE;
        }
        return come(s.moves, name, day, known) ? find(s.moves, name)[3] : s.names.get(name)[0];
    }

    public int on(int name, int day, int known) {
        if (!days(day, known) || !has(s.names, name)) {
            return NONE;
        }
        if (s.names.get(name)[5] > known || come(s.offs, name, day, known)) {
            return 0;
        }
        Map<String, Long> of = ofName(name, day, known);
        return anyHolds("on", day, of) && !anyHolds("off", day, of) ? 1 : 0;
    }

    public int roll(int place, int day, int known) {
        if (!days(day, known) || !has(s.places, place)) {
            return NONE;
        }
        int n = 0;
        for (int i = 0; i < s.names.size(); i++) {
            if (where(i, day, known) == place && on(i, day, known) == 1) {
                n++;
            }
        }
        return n;
    }

    public int like(int a, int b) {
        if (!has(s.names, a) || !has(s.names, b) || a == b) {
            return NONE;
        }
        int[] p = s.names.get(a);
        int[] q = s.names.get(b);
        int n = p[1] == q[1] ? 1 : 0;
        n += in(p[2] - q[2], -2, 2) ? 1 : 0;
        for (int i = 0; i < 4; i++) {
            n += ((p[4] >> (8 * i)) & 255) == ((q[4] >> (8 * i)) & 255) ? 1 : 0;
        }
        return n;
    }

    public int apart(int a, int b) {
        if (!has(s.names, a) || !has(s.names, b)) {
            return no(-2);
        }
        if (a == b) {
            return no(-3);
        }
        if (s.bars.size() == 40) {
            return no(-5);
        }
        s.bars.add(new int[] {a, b});
        return yes(s.bars.size());
    }

    public int twice(int day, int known, int i) {
        if (!days(day, known)) {
            return NONE;
        }
        List<Integer> pairs = new ArrayList<>();
        for (int a = 0; a < s.names.size(); a++) {
            if (on(a, day, known) != 1) {
                continue;
            }
            for (int b = a + 1; b < s.names.size(); b++) {
                if (like(a, b) < 5 || where(a, day, known) == where(b, day, known)
                        || on(b, day, known) != 1) {
                    continue;
                }
                boolean barred = false;
                for (int[] bar : s.bars) {
                    barred |= (bar[0] == a && bar[1] == b) || (bar[0] == b && bar[1] == a);
                }
                if (!barred) {
                    pairs.add(a * 200 + b);
                }
            }
        }
        return i == NONE ? pairs.size() : has(pairs, i) ? pairs.get(i) : NONE;
    }

    public int feed(int a, int b, int c, int d, int e) {
        if (tape.size() + 20 > 400) {
            return NONE;
        }
        for (int four : new int[] {a, b, c, d, e}) {
            for (int i = 3; i >= 0; i--) {
                tape.add((four >> (8 * i)) & 255);
            }
        }
        return tape.size();
    }

    public int end(int n) {
        if (!in(n, 0, tape.size())) {
            return NONE;
        }
        tape.subList(n, tape.size()).clear();
        return n;
    }

    // ---- the language: a recogniser of any grammar, and limits beside it ----

    private static final String[] GRAMMAR = {
        "TEXT=CLAUSE", "TEXT=TEXT ; CLAUSE", "CLAUSE=strike n19 clause n11", "CLAUSE=HEAD",
        "CLAUSE=HEAD if TEST", "HEAD=on", "HEAD=off", "HEAD=void n9", "HEAD=again", "HEAD=most SUM",
        "HEAD=far SUM", "HEAD=few SUM", "TEST=BOTH", "TEST=TEST or BOTH", "BOTH=PLAIN",
        "BOTH=BOTH and PLAIN", "PLAIN=not PLAIN", "PLAIN=( TEST )", "PLAIN=wife", "PLAIN=late",
        "PLAIN=walker", "PLAIN=moved", "PLAIN=broken", "PLAIN=SUM < SUM", "PLAIN=SUM > SUM",
        "PLAIN=SUM = SUM", "SUM=TERM", "SUM=SUM + TERM", "SUM=SUM - TERM", "TERM=PART",
        "TERM=TERM * PART", "TERM=TERM / PART", "PART=n100000", "PART=[ SUM ]", "PART=age",
        "PART=house", "PART=place", "PART=seat", "PART=day", "PART=names", "PART=papers",
        "PART=given", "PART=put", "PART=spoilt", "PART=lost"};
    private static final Set<String> PARTS = Set.of("age", "house", "place", "seat", "day", "names",
            "papers", "given", "put", "spoilt", "lost", "wife", "late", "walker", "moved", "broken");

    /** An item of the recogniser: a rule, how much of it is read, and from which token on. */
    private record Item(int rule, int dot, int from) {
    }

    private static String[] right(int rule) {
        return GRAMMAR[rule].substring(GRAMMAR[rule].indexOf('=') + 1).split(" ");
    }

    private static String left(int rule) {
        return GRAMMAR[rule].substring(0, GRAMMAR[rule].indexOf('='));
    }

    private static boolean isNumber(String token) {
        return !token.isEmpty() && Character.isDigit(token.charAt(0));
    }

    private static boolean fits(String terminal, String token) {
        if (terminal.length() > 1 && terminal.charAt(0) == 'n'
                && Character.isDigit(terminal.charAt(1))) {
            return isNumber(token)
                    && new BigInteger(token).compareTo(new BigInteger(terminal.substring(1))) <= 0;
        }
        return terminal.equals(token);
    }

    private static void complete(List<List<Item>> chart, int at) {
        List<Item> now = chart.get(at);
        Set<Item> seen = new HashSet<>(now);
        for (int i = 0; i < now.size(); i++) {
            Item item = now.get(i);
            String[] right = right(item.rule);
            List<Item> next = new ArrayList<>();
            if (item.dot == right.length) {
                for (Item back : new ArrayList<>(chart.get(item.from))) {
                    String[] r = right(back.rule);
                    if (back.dot < r.length && r[back.dot].equals(left(item.rule))) {
                        next.add(new Item(back.rule, back.dot + 1, back.from));
                    }
                }
            } else {
                for (int rule = 0; rule < GRAMMAR.length; rule++) {
                    if (left(rule).equals(right[item.dot])) {
                        next.add(new Item(rule, 0, at));
                    }
                }
            }
            for (Item n : next) {
                if (seen.add(n)) {
                    now.add(n);
                }
            }
        }
    }

    /** The first token that can't go on; the number of tokens for the end; NONE if it is a text. */
    private static int firstWrong(List<String> tokens) {
        List<List<Item>> chart = new ArrayList<>();
        List<Item> start = new ArrayList<>();
        start.add(new Item(0, 0, 0));
        start.add(new Item(1, 0, 0));
        chart.add(start);
        complete(chart, 0);
        int depth = 0;
        int leaves = 0;
        int clauses = 1;
        for (int t = 0; t < tokens.size(); t++) {
            String token = tokens.get(t);
            List<Item> next = new ArrayList<>();
            for (Item item : chart.get(t)) {
                String[] right = right(item.rule);
                if (item.dot < right.length && fits(right[item.dot], token)) {
                    next.add(new Item(item.rule, item.dot + 1, item.from));
                }
            }
            if (next.isEmpty() || clauses > 12) {
                return t;
            }
            depth += token.equals("(") || token.equals("[") ? 1 : 0;
            depth -= token.equals(")") || token.equals("]") ? 1 : 0;
            clauses += token.equals(";") ? 1 : 0;
            String ahead = t == 0 ? "" : tokens.get(t - 1);
            boolean bare = ahead.equals("strike") || ahead.equals("clause") || ahead.equals("void");
            leaves += PARTS.contains(token) || (isNumber(token) && !bare) ? 1 : 0;
            if (depth > 8 || leaves > 50) {
                return t;
            }
            chart.add(next);
            complete(chart, t + 1);
        }
        for (Item item : chart.get(tokens.size())) {
            if (item.from == 0 && left(item.rule).equals("TEXT")
                    && item.dot == right(item.rule).length && clauses <= 12) {
                return NONE;
            }
        }
        return tokens.size();
    }

    private static int sort(int b) {
        return b == 32 ? 0 : b >= 'a' && b <= 'z' ? 1 : b >= '0' && b <= '9' ? 2 : 3;
    }

    public int order(int from) {
        if (!days(from)) {
            return no(-1);
        }
        if (s.texts.size() == 20) {
            return no(-5);
        }
        List<String> tokens = new ArrayList<>();
        List<Integer> starts = new ArrayList<>();
        for (int i = 0; i < tape.size(); i++) {
            int b = tape.get(i);
            if (sort(b) == 0) {
                continue;
            }
            boolean longer = i > 0 && sort(b) < 3 && sort(tape.get(i - 1)) == sort(b);
            if (longer) {
                int last = tokens.size() - 1;
                tokens.set(last, tokens.get(last) + (char) b);
            } else {
                tokens.add("" + (char) b);
                starts.add(i);
            }
        }
        starts.add(tape.size());
        tape.clear();
        int wrong = firstWrong(tokens);
        fault = wrong == NONE ? NONE : starts.get(wrong);
        if (wrong != NONE) {
            return no(-6);
        }
        List<List<String>> clauses = new ArrayList<>();
        clauses.add(new ArrayList<>());
        for (String token : tokens) {
            if (token.equals(";")) {
                clauses.add(new ArrayList<>());
            } else {
                clauses.get(clauses.size() - 1).add(token);
            }
        }
        s.texts.add(clauses);
        s.froms.add(new int[] {from});
        return yes(s.texts.size() - 1);
    }

    public int fault() {
        return fault;
    }

    private boolean inForce(int text, int clause, int day) {
        if (s.froms.get(text)[0] > day) {
            return false;
        }
        for (int later = text + 1; later < s.texts.size(); later++) {
            List<List<String>> clauses = s.texts.get(later);
            for (int c = 0; c < clauses.size(); c++) {
                List<String> t = clauses.get(c);
                if (t.get(0).equals("strike") && Integer.parseInt(t.get(1)) == text
                        && Integer.parseInt(t.get(3)) == clause && inForce(later, c, day)) {
                    return false;
                }
            }
        }
        return true;
    }

    public int force(int text, int clause, int day) {
        if (!days(day) || !has(s.texts, text) || !has(s.texts.get(text), clause)) {
            return NONE;
        }
        return inForce(text, clause, day) ? 1 : 0;
    }

    private List<List<String>> clausesOf(String head, int day) {
        List<List<String>> all = new ArrayList<>();
        for (int t = 0; t < s.texts.size(); t++) {
            for (int c = 0; c < s.texts.get(t).size(); c++) {
                if (s.texts.get(t).get(c).get(0).equals(head) && inForce(t, c, day)) {
                    all.add(s.texts.get(t).get(c));
                }
            }
        }
        return all;
    }

    private static boolean testHolds(List<String> clause, Map<String, Long> of) {
        int at = clause.indexOf("if");
        if (at < 0) {
            return true;
        }
        try {
            return test(clause.subList(at + 1, clause.size()), of);
        } catch (BrokenSum b) {
            return false;
        }
    }

    private boolean anyHolds(String head, int day, Map<String, Long> of) {
        for (List<String> clause : clausesOf(head, day)) {
            if (testHolds(clause, of)) {
                return true;
            }
        }
        return false;
    }

    private int ruled(String head, int day, Map<String, Long> of, int without) {
        int told = without;
        for (List<String> clause : clausesOf(head, day)) {
            int at = clause.indexOf("if");
            try {
                if (testHolds(clause, of)) {
                    long v = sum(clause.subList(1, at < 0 ? clause.size() : at), of);
                    told = (int) Math.max(0, v);
                }
            } catch (BrokenSum b) {
                continue;
            }
        }
        return told;
    }

    /** The last (or first) of the signs that stands outside of brackets, or NONE. */
    private static int outside(List<String> t, boolean last, String... signs) {
        int depth = 0;
        int found = NONE;
        for (int i = 0; i < t.size(); i++) {
            String token = t.get(i);
            if (token.equals("(") || token.equals("[")) {
                depth++;
            } else if (token.equals(")") || token.equals("]")) {
                depth--;
            } else if (depth == 0 && Arrays.asList(signs).contains(token)
                    && (found == NONE || last)) {
                found = i;
            }
        }
        return found;
    }

    private static boolean test(List<String> t, Map<String, Long> of) {
        int at = outside(t, true, "or");
        if (at >= 0) {
            return test(t.subList(0, at), of) || test(t.subList(at + 1, t.size()), of);
        }
        at = outside(t, true, "and");
        if (at >= 0) {
            return test(t.subList(0, at), of) && test(t.subList(at + 1, t.size()), of);
        }
        if (t.get(0).equals("not")) {
            return !test(t.subList(1, t.size()), of);
        }
        if (t.get(0).equals("(")) {
            return test(t.subList(1, t.size() - 1), of);
        }
        at = outside(t, false, "<", ">", "=");
        if (at < 0) {
            return of.getOrDefault(t.get(0), 0L) != 0;
        }
        long a = sum(t.subList(0, at), of);
        long b = sum(t.subList(at + 1, t.size()), of);
        return t.get(at).equals("<") ? a < b : t.get(at).equals(">") ? a > b : a == b;
    }

    private static long sum(List<String> t, Map<String, Long> of) {
        int at = outside(t, true, "+", "-");
        if (at < 0) {
            at = outside(t, true, "*", "/");
        }
        if (at >= 0) {
            long a = sum(t.subList(0, at), of);
            long b = sum(t.subList(at + 1, t.size()), of);
            if (t.get(at).equals("/") && b == 0) {
                throw new BrokenSum();
            }
            long v = switch (t.get(at)) {
                case "+" -> a + b;
                case "-" -> a - b;
                case "*" -> a * b;
                default -> a / b;
            };
            if (Math.abs(v) > 1_000_000_000L) {
                throw new BrokenSum();
            }
            return v;
        }
        if (t.get(0).equals("[")) {
            return sum(t.subList(1, t.size() - 1), of);
        }
        return isNumber(t.get(0)) ? Long.parseLong(t.get(0)) : of.getOrDefault(t.get(0), 0L);
    }

    private Map<String, Long> ofName(int name, int day, int known) {
        Map<String, Long> of = new HashMap<>();
        int[] n = s.names.get(name);
        int place = where(name, day, known);
        of.put("day", (long) day);
        of.put("age", (long) n[2]);
        of.put("house", (long) n[1]);
        of.put("place", (long) place);
        of.put("seat", (long) s.places.get(place)[0]);
        of.put("wife", n[3] == 1 ? 1L : 0L);
        of.put("late", n[3] == 2 ? 1L : 0L);
        of.put("walker", n[3] == 3 ? 1L : 0L);
        of.put("moved", come(s.moves, name, day, known) ? 1L : 0L);
        return of;
    }

    private Map<String, Long> ofPlace(int place, int day, int known) {
        Map<String, Long> of = new HashMap<>();
        of.put("day", (long) day);
        of.put("place", (long) place);
        of.put("seat", (long) s.places.get(place)[0]);
        of.put("names", (long) roll(place, day, known));
        return of;
    }

    private Map<String, Long> ofBooth(int booth, int day, int known) {
        Map<String, Long> of = ofPlace(s.booths.get(booth)[0], day, known);
        of.put("papers", (long) paperOf(booth, 0, known));
        of.put("given", (long) paperOf(booth, 1, known));
        of.put("put", (long) put(booth, known));
        of.put("spoilt", (long) paperOf(booth, 2, known));
        of.put("lost", (long) lost(booth, known));
        long broken = 0;
        for (int box = 0; box < s.boxes.size(); box++) {
            if (s.boxes.get(box)[0] == booth && broken(box, known, 0) != NONE) {
                broken = 1;
            }
        }
        of.put("broken", broken);
        return of;
    }

    public int rule(int place, int day, int known, int what) {
        if (!days(day, known) || !in(what, 0, 2) || (what != 2 && !has(s.places, place))) {
            return NONE;
        }
        if (what == 2) {
            return ruled("few", day, Map.of("day", (long) day), 0);
        }
        Map<String, Long> of = ofPlace(place, day, known);
        return what == 0 ? ruled("most", day, of, 1000) : ruled("far", day, of, 200);
    }

    public int wish(int place) {
        if (!has(s.places, place)) {
            return no(-2);
        }
        if (wishes.contains(place)) {
            return no(-4);
        }
        if (wishes.size() == 7) {
            return no(-5);
        }
        wishes.add(place);
        spans.add(new int[] {0, 399});
        return yes(wishes.size());
    }

    public int clear() {
        int n = wishes.size();
        wishes.clear();
        spans.clear();
        return n;
    }

    private int far(int a, int b) {
        int[] p = s.places.get(a);
        int[] q = s.places.get(b);
        return Math.abs(p[1] - q[1]) + Math.abs(p[2] - q[2]);
    }

    private boolean allThere() {
        for (int place : wishes) {
            if (!has(s.places, place)) {
                return false;
            }
        }
        return true;
    }

    /** All rows by counting up; the least sum, of alike ones the first; null if none can be. */
    private List<Integer> bestRow(int bits, int[] names, int[] mosts, int[] fars) {
        int n = wishes.size();
        int[] row = new int[n];
        List<Integer> best = null;
        int bestSum = Integer.MAX_VALUE;
        long rows = 1;
        for (int i = 0; i < n; i++) {
            rows *= n;
        }
        for (long r = 0; r < rows; r++) {
            long rest = r;
            for (int i = n - 1; i >= 0; i--) {
                row[i] = (int) (rest % n);
                rest /= n;
            }
            int sum = 0;
            int[] load = new int[n];
            boolean can = true;
            for (int i = 0; i < n && can; i++) {
                int way = far(wishes.get(i), wishes.get(row[i]));
                sum += way;
                load[row[i]] += names[i];
                can = (bits >> row[i] & 1) == 1 && way <= fars[i] && load[row[i]] <= mosts[row[i]];
            }
            if (can && sum < bestSum) {
                bestSum = sum;
                best = new ArrayList<>();
                for (int b : row) {
                    best.add(b);
                }
            }
        }
        return best;
    }

    private int sumOf(List<Integer> row) {
        int sum = 0;
        for (int i = 0; i < row.size(); i++) {
            sum += far(wishes.get(i), wishes.get(row.get(i)));
        }
        return sum;
    }

    private int[] ofWishes(int day, int known, int what) {
        int[] all = new int[wishes.size()];
        for (int i = 0; i < all.length; i++) {
            all[i] = what == 2 ? roll(wishes.get(i), day, known)
                    : rule(wishes.get(i), day, known, what);
        }
        return all;
    }

    public int booths(int day, int known) {
        if (!days(day, known) || !allThere()) {
            return NONE;
        }
        int[] names = ofWishes(day, known, 2);
        int[] mosts = ofWishes(day, known, 0);
        int[] fars = ofWishes(day, known, 1);
        int best = NONE;
        List<Integer> bestRow = null;
        for (int bits = 0; bits < 1 << wishes.size(); bits++) {
            List<Integer> row = bestRow(bits, names, mosts, fars);
            if (row != null && (best == NONE || Integer.bitCount(bits) < Integer.bitCount(best)
                    || (Integer.bitCount(bits) == Integer.bitCount(best)
                            && sumOf(row) < sumOf(bestRow)))) {
                best = bits;
                bestRow = row;
            }
        }
        if (best != NONE) {
            ledRow = bestRow;
            ledSum = sumOf(bestRow);
        }
        return best;
    }

    public int led(int i) {
        if (ledRow == null) {
            return NONE;
        }
        return i == NONE ? ledSum : has(ledRow, i) ? ledRow.get(i) : NONE;
    }

    public int judge(int bits, int day, int known) {
        if (!days(day, known) || !allThere() || !in(bits, 0, (1 << wishes.size()) - 1)) {
            return NONE;
        }
        List<Integer> row = bestRow(bits, ofWishes(day, known, 2), ofWishes(day, known, 0),
                ofWishes(day, known, 1));
        return row == null ? NONE : sumOf(row);
    }

    public int booth(int place) {
        if (!has(s.places, place)) {
            return no(-2);
        }
        if (s.booths.size() == 20) {
            return no(-5);
        }
        s.booths.add(new int[] {place});
        return yes(s.booths.size() - 1);
    }

    public int box(int booth, int seal) {
        if (!in(seal, 0, 99_999)) {
            return no(-1);
        }
        if (!has(s.booths, booth)) {
            return no(-2);
        }
        if (s.boxes.size() == 40) {
            return no(-5);
        }
        s.boxes.add(new int[] {booth, seal});
        return yes(s.boxes.size() - 1);
    }

    public int hand(int box, int hand, int day, int seal, int known) {
        if (!in(hand, 0, 19) || !days(day, known) || !in(seal, 0, 99_999)) {
            return no(-1);
        }
        if (!has(s.boxes, box)) {
            return no(-2);
        }
        if (s.handed.size() == 200) {
            return no(-5);
        }
        s.handed.add(new int[] {box, hand, day, seal, known});
        return yes(s.handed.size());
    }

    /** What was known to be handed of a box, by day and then as told. */
    private List<int[]> handedOf(int box, int known) {
        List<int[]> rows = new ArrayList<>();
        for (int[] h : s.handed) {
            if (h[0] == box && h[4] <= known) {
                rows.add(h);
            }
        }
        rows.sort((p, q) -> Integer.compare(p[2], q[2]));
        return rows;
    }

    public int held(int box, int day, int known) {
        if (!days(day, known) || !has(s.boxes, box)) {
            return NONE;
        }
        int hand = NONE;
        for (int[] h : handedOf(box, known)) {
            hand = h[2] <= day ? h[1] : hand;
        }
        return hand;
    }

    public int broken(int box, int known, int what) {
        if (!days(known) || !has(s.boxes, box) || !in(what, 0, 2)) {
            return NONE;
        }
        int ahead = NONE;
        for (int[] h : handedOf(box, known)) {
            if (h[3] != s.boxes.get(box)[1]) {
                return what == 0 ? h[1] : what == 1 ? ahead : h[2];
            }
            ahead = h[1];
        }
        return NONE;
    }

    public int paper(int booth, int what, int n, int known) {
        if (!in(what, 0, 3) || !in(n, 0, 100_000) || !days(known)) {
            return no(-1);
        }
        if (!has(s.booths, booth)) {
            return no(-2);
        }
        if (s.papers.size() == 120) {
            return no(-5);
        }
        s.papers.add(new int[] {booth, what, n, known});
        return yes(s.papers.size());
    }

    public int count(int box, int symbol, int mark, int n, int known) {
        if (!in(symbol, 0, 7) || !in(mark, 0, 9) || !in(n, 0, 10_000) || !days(known)) {
            return no(-1);
        }
        if (!has(s.boxes, box)) {
            return no(-2);
        }
        if (s.counts.size() == 200) {
            return no(-5);
        }
        s.counts.add(new int[] {box, symbol, mark, n, known});
        return yes(s.counts.size() - 1);
    }

    private int paperOf(int booth, int what, int known) {
        int n = 0;
        for (int[] p : s.papers) {
            n = p[0] == booth && p[1] == what && p[3] <= known ? p[2] : n;
        }
        return n;
    }

    /** The tellings that stand for a booth. */
    private List<int[]> counted(int booth, int known) {
        Map<List<Integer>, int[]> last = new HashMap<>();
        for (int[] c : s.counts) {
            if (c[4] <= known && s.boxes.get(c[0])[0] == booth) {
                last.put(List.of(c[0], c[1], c[2]), c);
            }
        }
        return new ArrayList<>(last.values());
    }

    private int put(int booth, int known) {
        int n = 0;
        for (int[] c : counted(booth, known)) {
            n += c[3];
        }
        return n;
    }

    private int lost(int booth, int known) {
        return paperOf(booth, 1, known) - put(booth, known) - paperOf(booth, 2, known);
    }

    private int[] valid(int booth, int day, int known) {
        int[] sums = new int[8];
        Map<String, Long> of = ofBooth(booth, day, known);
        Set<Integer> voids = new HashSet<>();
        for (List<String> clause : clausesOf("void", day)) {
            if (testHolds(clause, of)) {
                voids.add(Integer.parseInt(clause.get(1)));
            }
        }
        for (int[] c : counted(booth, known)) {
            sums[c[1]] += voids.contains(c[2]) ? 0 : c[3];
        }
        return sums;
    }

    private boolean again(int booth, int day, int known) {
        return anyHolds("again", day, ofBooth(booth, day, known));
    }

    public int tells(int booth, int day, int known, int what) {
        if (!days(day, known) || !has(s.booths, booth) || !in(what, 0, 8)) {
            return NOTHING;
        }
        return switch (what) {
            case 4 -> put(booth, known);
            case 5 -> lost(booth, known);
            case 6 -> paperOf(booth, 0, known) == paperOf(booth, 1, known)
                    + paperOf(booth, 3, known) && lost(booth, known) == 0 ? 1 : 0;
            case 7 -> again(booth, day, known) ? 1 : 0;
            case 8 -> Arrays.stream(valid(booth, day, known)).sum();
            default -> paperOf(booth, what, known);
        };
    }

    public int keep(int seat, int symbol) {
        if (!in(seat, 0, 5) || !in(symbol, 0, 7)) {
            return no(-1);
        }
        for (int[] k : s.keeps) {
            if (k[0] == seat && k[1] == symbol) {
                return no(-4);
            }
        }
        s.keeps.add(new int[] {seat, symbol});
        return yes(0);
    }

    private List<Integer> boothsOf(int seat) {
        List<Integer> all = new ArrayList<>();
        for (int b = 0; b < s.booths.size(); b++) {
            if (s.places.get(s.booths.get(b)[0])[0] == seat) {
                all.add(b);
            }
        }
        return all;
    }

    public int seat(int seat, int day, int known, int what) {
        if (!days(day, known) || !in(seat, 0, 5) || !in(what, 0, 10)) {
            return NOTHING;
        }
        int[] sums = new int[8];
        for (int b : boothsOf(seat)) {
            int[] v = valid(b, day, known);
            for (int i = 0; i < 8; i++) {
                sums[i] += v[i];
            }
        }
        if (what < 8) {
            return sums[what];
        }
        List<Integer> stand = new ArrayList<>();
        for (int[] k : s.keeps) {
            if (k[0] == seat) {
                stand.add(k[1]);
            }
        }
        if (stand.isEmpty()) {
            stand.addAll(List.of(0, 1, 2, 3, 4, 5, 6, 7));
        }
        stand.sort((a, b) -> Integer.compare(sums[b], sums[a]));
        int next = stand.size() > 1 ? sums[stand.get(1)] : 0;
        int margin = sums[stand.get(0)] - next;
        if (what == 8) {
            return margin > 0 ? stand.get(0) : NONE;
        }
        if (what == 9) {
            return margin;
        }
        Set<Integer> places = new HashSet<>();
        for (int b : boothsOf(seat)) {
            if (again(b, day, known)) {
                places.add(s.booths.get(b)[0]);
            }
        }
        int names = 0;
        for (int p : places) {
            names += roll(p, day, known);
        }
        return !places.isEmpty() && names >= margin ? 1 : 0;
    }

    public int hidden(int booth, int symbol, int day, int known, int what) {
        if (!days(day, known) || !has(s.booths, booth) || !in(symbol, 0, 7) || !in(what, 0, 1)) {
            return NONE;
        }
        int few = rule(0, day, known, 2);
        List<List<Integer>> groups = new ArrayList<>();
        List<Integer> open = new ArrayList<>();
        for (int b : boothsOf(s.places.get(s.booths.get(booth)[0])[0])) {
            open.add(b);
            int put = 0;
            Set<Integer> symbols = new HashSet<>();
            for (int o : open) {
                put += put(o, known);
                int[] v = valid(o, day, known);
                for (int i = 0; i < 8; i++) {
                    if (v[i] > 0) {
                        symbols.add(i);
                    }
                }
            }
            if (put >= few && symbols.size() >= 2) {
                groups.add(open);
                open = new ArrayList<>();
            }
        }
        if (groups.isEmpty()) {
            groups.add(open);
        } else {
            groups.get(groups.size() - 1).addAll(open);
        }
        for (List<Integer> group : groups) {
            if (group.contains(booth)) {
                int sum = 0;
                for (int b : group) {
                    sum += valid(b, day, known)[symbol];
                }
                return what == 0 ? sum : group.size();
            }
        }
        return NONE;
    }

    public int shares(int n, int symbol, int day, int known) {
        if (!in(n, 1, 20) || !in(symbol, 0, 7) || !days(day, known)) {
            return NONE;
        }
        long[] sums = new long[8];
        long all = 0;
        for (int b = 0; b < s.booths.size(); b++) {
            int[] v = valid(b, day, known);
            for (int i = 0; i < 8; i++) {
                sums[i] += v[i];
                all += v[i];
            }
        }
        if (all == 0) {
            return NONE;
        }
        final long through = all;
        long[] seats = new long[8];
        long left = n;
        List<Integer> order = new ArrayList<>();
        for (int i = 0; i < 8; i++) {
            seats[i] = n * sums[i] / through;
            left -= seats[i];
            order.add(i);
        }
        order.sort((a, b) -> Long.compare(n * sums[b] % through, n * sums[a] % through));
        for (int i = 0; i < left; i++) {
            seats[order.get(i)]++;
        }
        return (int) seats[symbol];
    }

    public int terms(int pace, int rivers) {
        if (!in(pace, 1, 50) || !in(rivers, 0, 9)) {
            return no(-1);
        }
        s.pace = pace;
        s.rivers = rivers;
        return yes(0);
    }

    public int span(int wish, int first, int last) {
        if (!days(first, last) || last < first) {
            return no(-1);
        }
        if (!has(wishes, wish)) {
            return no(-2);
        }
        spans.set(wish, new int[] {first, last});
        return yes(0);
    }

    private void allWays(int place, int day, List<int[]> so, List<List<int[]>> ways) {
        ways.add(new ArrayList<>(so));
        for (int w = 0; w < wishes.size(); w++) {
            boolean been = false;
            for (int[] leg : so) {
                been |= leg[0] == w;
            }
            int to = wishes.get(w);
            int poll = day + (int) Math.ceil((double) far(place, to) / s.pace);
            poll += s.places.get(place)[0] == s.places.get(to)[0] ? 0 : s.rivers;
            poll = Math.max(poll, spans.get(w)[0]);
            if (!been && poll <= spans.get(w)[1] && poll <= 399) {
                so.add(new int[] {w, poll});
                allWays(to, poll + 1, so, ways);
                so.remove(so.size() - 1);
            }
        }
    }

    private static int compareWays(List<int[]> p, List<int[]> q) {
        if (p.size() != q.size()) {
            return Integer.compare(q.size(), p.size());
        }
        if (p.isEmpty()) {
            return 0;
        }
        int last = p.size() - 1;
        if (p.get(last)[1] != q.get(last)[1]) {
            return Integer.compare(p.get(last)[1], q.get(last)[1]);
        }
        for (int i = 0; i < p.size(); i++) {
            if (p.get(i)[0] != q.get(i)[0]) {
                return Integer.compare(p.get(i)[0], q.get(i)[0]);
            }
        }
        return 0;
    }

    public int way(int place, int day) {
        if (!days(day) || !has(s.places, place) || !allThere()) {
            return NONE;
        }
        List<List<int[]>> ways = new ArrayList<>();
        allWays(place, day, new ArrayList<>(), ways);
        ways.sort(Model::compareWays);
        legs = ways.get(0);
        return legs.size();
    }

    public int leg(int i, int what) {
        return has(legs, i) && in(what, 0, 1) ? legs.get(i)[what] : NONE;
    }

    private static BigInteger choose(int n, int k) {
        if (k < 0 || k > n) {
            return BigInteger.ZERO;
        }
        return k == 0 ? BigInteger.ONE : choose(n - 1, k - 1).multiply(BigInteger.valueOf(n))
                .divide(BigInteger.valueOf(k));
    }

    public int doors(int all, int drawn, int had, int what) {
        if (!in(all, 1, 60) || !in(drawn, 1, 12) || drawn > all || !in(had, 0, drawn)
                || !in(what, 0, 1)) {
            return NONE;
        }
        List<Integer> could = new ArrayList<>();
        for (int m = 0; m <= all; m++) {
            BigInteger low = BigInteger.ZERO;
            BigInteger high = BigInteger.ZERO;
            for (int j = 0; j <= drawn; j++) {
                BigInteger w = choose(m, j).multiply(choose(all - m, drawn - j));
                low = j <= had ? low.add(w) : low;
                high = j >= had ? high.add(w) : high;
            }
            BigInteger least = low.min(high).multiply(BigInteger.valueOf(20));
            if (least.compareTo(choose(all, drawn)) >= 0) {
                could.add(m);
            }
        }
        return could.isEmpty() ? NONE : could.get(what == 0 ? 0 : could.size() - 1);
    }

    /** How many tellings a booth has, their sum, and the sum of each times its place. */
    private int[] sealOf(int booth) {
        int[] kept = new int[3];
        for (int[] c : s.counts) {
            if (s.boxes.get(c[0])[0] == booth) {
                kept[0]++;
                kept[1] += c[3];
                kept[2] += c[3] * kept[0];
            }
        }
        return kept;
    }

    public int seal(int booth) {
        if (!has(s.booths, booth)) {
            return no(-2);
        }
        s.seals.put(booth, sealOf(booth));
        return yes(sealOf(booth)[0]);
    }

    public int alter(int telling, int mask) {
        if (!in(mask, 1, 255)) {
            return no(-1);
        }
        if (!has(s.counts, telling)) {
            return no(-2);
        }
        s.counts.get(telling)[3] ^= mask;
        return yes(s.counts.get(telling)[3]);
    }

    public int found(int booth) {
        if (!has(s.booths, booth) || !s.seals.containsKey(booth)) {
            return -3;
        }
        int[] then = s.seals.get(booth);
        int[] now = sealOf(booth);
        if (now[1] == then[1] && now[2] == then[2]) {
            return NONE;
        }
        if (now[0] > then[0]) {
            return -2;
        }
        for (int i = 0; i < s.counts.size(); i++) {
            int[] c = s.counts.get(i);
            if (s.boxes.get(c[0])[0] != booth) {
                continue;
            }
            int was = c[3];
            c[3] = was - (now[1] - then[1]);
            int[] tried = sealOf(booth);
            c[3] = was;
            if (tried[1] == then[1] && tried[2] == then[2]) {
                return i;
            }
        }
        return -2;
    }

    public int image(int k) {
        if (!in(k, 0, 1)) {
            return no(-1);
        }
        images[k] = s.copy();
        return yes(0);
    }

    public int back(int k) {
        if (!in(k, 0, 1)) {
            return no(-1);
        }
        if (images[k] == null) {
            return no(-2);
        }
        s = images[k].copy();
        return yes(0);
    }

    public int all(int what) {
        return switch (what) {
            case 0 -> s.places.size();
            case 1 -> s.names.size();
            case 2 -> s.texts.size();
            case 3 -> s.booths.size();
            case 4 -> s.boxes.size();
            case 5 -> s.handed.size();
            case 6 -> s.counts.size();
            case 7 -> wishes.size();
            case 8 -> tape.size();
            default -> NONE;
        };
    }

    public int status() {
        return status;
    }
}
