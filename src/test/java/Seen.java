/** All that can be asked of a land without changing it, as one text to compare. */
final class Seen {
    private static final int[] DAYS = {0, 7, 399};

    private Seen() {
    }

    static String of(FirstPolls x) {
        StringBuilder seen = new StringBuilder();
        for (int what = 0; what <= 8; what++) {
            seen.append(x.all(what)).append(' ');
        }
        seen.append("fault ").append(x.fault());
        latest(x, seen);
        for (int name = 0; name < x.all(1); name++) {
            for (int what = 0; what < 5; what++) {
                seen.append(' ').append(x.of(name, what));
            }
        }
        for (int box = 0; box < x.all(4); box++) {
            for (int what = 0; what < 3; what++) {
                seen.append(' ').append(x.broken(box, 399, what));
            }
        }
        for (int booth = 0; booth < x.all(3); booth++) {
            seen.append(" found ").append(x.found(booth));
        }
        for (int day : DAYS) {
            for (int known : DAYS) {
                asKnown(x, seen, day, known);
            }
        }
        return seen.toString();
    }

    private static void latest(FirstPolls x, StringBuilder seen) {
        for (int i = -1; i < 7; i++) {
            seen.append(" led ").append(x.led(i));
            seen.append(" leg ").append(x.leg(i, 0)).append(' ').append(x.leg(i, 1));
        }
    }

    private static void asKnown(FirstPolls x, StringBuilder seen, int day, int known) {
        seen.append("\nday ").append(day).append(" known ").append(known);
        for (int name = 0; name < x.all(1); name++) {
            seen.append(' ').append(x.where(name, day, known)).append(x.on(name, day, known));
        }
        int pairs = x.twice(day, known, -1);
        seen.append(" twice ").append(pairs).append(' ').append(x.twice(day, known, pairs - 1));
        for (int place = 0; place < x.all(0); place++) {
            seen.append(" rule ").append(x.rule(place, day, known, 0)).append(' ');
            seen.append(x.rule(place, day, known, 1)).append(' ').append(x.roll(place, day, known));
        }
        seen.append(" few ").append(x.rule(0, day, known, 2));
        for (int text = 0; text < x.all(2); text++) {
            for (int clause = 0; clause < 12; clause++) {
                seen.append(x.force(text, clause, day));
            }
        }
        for (int box = 0; box < x.all(4); box++) {
            seen.append(" held ").append(x.held(box, day, known));
        }
        for (int bits = 0; bits < 1 << x.all(7); bits += 3) {
            seen.append(" judge ").append(x.judge(bits, day, known));
        }
        counts(x, seen, day, known);
    }

    private static void counts(FirstPolls x, StringBuilder seen, int day, int known) {
        for (int booth = 0; booth < x.all(3); booth++) {
            for (int what = 0; what < 9; what++) {
                seen.append(' ').append(x.tells(booth, day, known, what));
            }
            seen.append(" hidden ").append(x.hidden(booth, booth % 8, day, known, 0));
            seen.append(' ').append(x.hidden(booth, 0, day, known, 1));
        }
        for (int seat = 0; seat < 6; seat++) {
            seen.append(" seat");
            for (int what = 0; what < 11; what++) {
                seen.append(' ').append(x.seat(seat, day, known, what));
            }
        }
        for (int symbol = 0; symbol < 8; symbol++) {
            seen.append(" shares ").append(x.shares(5, symbol, day, known));
        }
    }
}
