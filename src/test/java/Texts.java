import java.util.ArrayList;
import java.util.List;
import java.util.Random;

/** Texts of orders as they may come: fine ones by the grammar, and spoilt ones. */
final class Texts {
    private static final String[] PARTS = {"age", "house", "place", "seat", "day", "names", "papers",
        "given", "put", "spoilt", "lost"};
    private static final String[] PLAINS = {"wife", "late", "walker", "moved", "broken"};
    private static final String[] OTHERS = {"on", "off", "void", "again", "most", "far", "few",
        "strike", "clause", "if", "or", "and", "not", "(", ")", "[", "]", "+", "-", "*", "/", "<",
        ">", "=", ";", "9", "10", "11", "12", "19", "20", "100000", "100001", "99999999999999",
        "007", "onn", "strikes", "A", ".", "\u00e9", "\u0000"};

    private final Random random;
    private List<String> tokens = new ArrayList<>();

    Texts(Random random) {
        this.random = random;
    }

    private int up(int bound) {
        return random.nextInt(bound);
    }

    private String one(String[] of) {
        return of[up(of.length)];
    }

    String text() {
        tokens = new ArrayList<>();
        int clauses = up(12) == 0 ? 12 + up(2) : 1 + up(5);
        for (int i = 0; i < clauses; i++) {
            if (i > 0) {
                tokens.add(";");
            }
            clause();
        }
        return joined();
    }

    String spoilt() {
        text();
        for (int i = 0; i < 1 + up(2); i++) {
            int at = up(tokens.size() + 1);
            String other = up(3) == 0 ? one(PARTS) : up(3) == 0 ? one(PLAINS) : one(OTHERS);
            if (at == tokens.size() || up(2) == 0) {
                tokens.add(at, other);
            } else if (up(2) == 0 || tokens.size() == 1) {
                tokens.set(at, other);
            } else {
                tokens.remove(at);
            }
        }
        return up(30) == 0 ? " ".repeat(up(4)) : joined();
    }

    private static boolean isAny(char sign) {
        return sign >= 'a' && sign <= 'z' || sign >= '0' && sign <= '9';
    }

    private String joined() {
        StringBuilder text = new StringBuilder(" ".repeat(up(5) == 0 ? up(3) : 0));
        for (String token : tokens) {
            boolean near = text.length() > 0 && isAny(text.charAt(text.length() - 1))
                    && isAny(token.charAt(0));
            text.append(near || up(4) == 0 ? " " : "").append(token);
        }
        text.append(" ".repeat(up(5) == 0 ? up(3) : 0));
        return text.length() > 400 ? text.substring(0, 400) : text.toString();
    }

    private void clause() {
        if (up(7) == 0) {
            tokens.addAll(List.of("strike", "" + up(4), "clause", "" + up(4)));
            return;
        }
        switch (up(9)) {
            case 0, 1 -> tokens.add("on");
            case 2 -> tokens.add("off");
            case 3 -> tokens.addAll(List.of("void", "" + up(4)));
            case 4 -> tokens.add("again");
            case 5, 6 -> {
                tokens.add("most");
                sum(2);
            }
            case 7 -> {
                tokens.add("far");
                sum(2);
            }
            default -> {
                tokens.add("few");
                sum(2);
            }
        }
        if (up(3) != 0) {
            tokens.add("if");
            test(up(12) == 0 ? 9 : 3);
        }
    }

    private void test(int depth) {
        both(depth);
        while (up(3) == 0) {
            tokens.add("or");
            both(depth);
        }
    }

    private void both(int depth) {
        plain(depth);
        while (up(3) == 0) {
            tokens.add("and");
            plain(depth);
        }
    }

    private void plain(int depth) {
        while (up(5) == 0) {
            tokens.add("not");
        }
        if (depth > 0 && up(depth > 5 ? 2 : 5) == 0) {
            tokens.add("(");
            test(depth - 1);
            tokens.add(")");
        } else if (up(3) == 0) {
            tokens.add(one(PLAINS));
        } else {
            sum(depth);
            tokens.add(one(new String[] {"<", ">", "="}));
            sum(depth);
        }
    }

    private void sum(int depth) {
        term(depth);
        while (up(4) == 0) {
            tokens.add(up(2) == 0 ? "+" : "-");
            term(depth);
        }
    }

    private void term(int depth) {
        part(depth);
        while (up(6) == 0) {
            tokens.add(up(2) == 0 ? "*" : "/");
            part(depth);
        }
    }

    private void part(int depth) {
        if (depth > 0 && up(8) == 0) {
            tokens.add("[");
            sum(depth - 1);
            tokens.add("]");
        } else if (up(2) == 0) {
            tokens.add(one(PARTS));
        } else {
            tokens.add("" + (up(8) == 0 ? 100_000 : up(3) == 0 ? up(30) : up(4)));
        }
    }
}
