/** Promises 1 to 13: places, names, who is on, who is told twice. */
public final class RollsTest {
    private static final int NONE = FirstPolls.NONE;
    private static final int ANNA = Check.letters("anna");

    private static FirstPolls land() {
        FirstPolls x = new FirstPolls();
        x.place(0, 0, 0);
        x.place(1, 10, 0);
        x.place(5, 99, 99);
        return x;
    }

    private static void promise1() {
        FirstPolls x = new FirstPolls();
        for (int what = 0; what <= 8; what++) {
            Check.due("all of a new object", x.all(what), 0);
        }
        Check.due("NONE", NONE, -1);
        Check.due("status of a new object", x.status(), 0);
        Check.due("fault of a new object", x.fault(), NONE);
        Check.due("led of a new object", x.led(NONE), NONE);
        Check.due("leg of a new object", x.leg(0, 0), NONE);
        Check.due("where of a new object", x.where(0, 0, 0), NONE);
        Check.due("rule of a new object", x.rule(0, 0, 0, 2), 0);
        Check.due("back of a new object", x.back(0), -2);
    }

    private static void promise2() {
        FirstPolls x = new FirstPolls();
        int[][] wrong = {{-1, 0, 0}, {6, 0, 0}, {0, -1, 0}, {0, 100, 0}, {0, 0, -1}, {0, 0, 100}};
        for (int[] w : wrong) {
            Check.refused(x, "place", x.place(w[0], w[1], w[2]), -1);
        }
        for (int i = 0; i < 16; i++) {
            Check.accepted(x, "place " + i, x.place(i % 6, 99, 99), i);
        }
        Check.refused(x, "place 16", x.place(0, 0, 0), -5);
        Check.refused(x, "place -1 ahead of -5", x.place(6, 0, 0), -1);
        Check.due("places", x.all(0), 16);
    }

    private static void promise3() {
        FirstPolls x = land();
        int[][] wrong = {{-1, 0, 0, ANNA, 0}, {100, 0, 0, ANNA, 0}, {0, -1, 0, ANNA, 0},
            {0, 121, 0, ANNA, 0}, {0, 0, -1, ANNA, 0}, {0, 0, 4, ANNA, 0}, {0, 0, 0, ANNA, -1},
            {0, 0, 0, ANNA, 400}, {0, 0, 0, Check.letters("annA"), 0},
            {0, 0, 0, Check.letters("{nna"), 0}, {0, 0, 0, Check.letters("a`na"), 0},
            {0, 0, 0, ANNA | 0x80000000, 0}, {0, 0, 0, 0, 0}};
        for (int[] w : wrong) {
            Check.refused(x, "name", x.name(0, w[0], w[1], w[2], w[3], w[4]), -1);
            Check.refused(x, "name -1 ahead of -2", x.name(9, w[0], w[1], w[2], w[3], w[4]), -1);
        }
        Check.refused(x, "name", x.name(3, 0, 0, 0, ANNA, 0), -2);
        Check.refused(x, "name", x.name(-1, 0, 0, 0, ANNA, 0), -2);
        Check.accepted(x, "name", x.name(0, 99, 120, 3, Check.letters("zzzz"), 399), 0);
        for (int i = 1; i < 200; i++) {
            Check.accepted(x, "name", x.name(2, 0, 0, 0, Check.letters("aaaa"), 0), i);
        }
        Check.refused(x, "name 200", x.name(0, 0, 0, 0, ANNA, 0), -5);
        Check.refused(x, "name -2 ahead of -5", x.name(3, 0, 0, 0, ANNA, 0), -2);
        Check.due("names", x.all(1), 200);
    }

    private static void promise4() {
        FirstPolls x = land();
        Check.refused(x, "row of an empty tape", x.row(0, 0), -6);
        Check.refused(x, "row -2 ahead of -6", x.row(3, 0), -2);
        Check.refused(x, "row -1 ahead of -2", x.row(3, 400), -1);
        byte[] rows = {1, 2, 0, 'a', 'b', 'c', 'd', 100, 2, 0, 'a', 'b', 'c', 'd', 0, 121, 0, 'a',
            'b', 'c', 'd', 0, 0, 4, 'a', 'b', 'c', 'd', 0, 0, 0, 'a', 'b', 'c', 'D', 99, 120, 3,
            'z', 'z', 'z', 'z', (byte) 200, 0, 0, 'a', 'a', 'a', 'a', 5, 6, 1, 'a', 'b', 'c'};
        Check.tape(x, rows);
        Check.refused(x, "row", x.row(-1, 0), -2);
        Check.due("a refused row leaves the tape", x.all(8), rows.length);
        Check.accepted(x, "row", x.row(2, 7), 2);
        Check.due("the tape behind a row", x.all(8), 0);
        Check.due("names", x.all(1), 2);
        Check.due("of 0 place", x.of(0, 0), 2);
        Check.due("of 1 house", x.of(1, 1), 99);
        Check.due("of 1 age", x.of(1, 2), 120);
        Check.due("of 1 kind", x.of(1, 3), 3);
        Check.due("of 1 letters", x.of(1, 4), Check.letters("zzzz"));
        Check.due("known from", x.where(0, 0, 6), NONE);
        Check.due("known from", x.where(0, 0, 7), 2);
        Check.tape(x, new byte[] {1, 2, 3, 4, 5, 6});
        Check.accepted(x, "a row that breaks off", x.row(0, 0), 0);
        Check.due("the tape behind it", x.all(8), 0);
        for (int i = 2; i < 199; i++) {
            x.name(0, 0, 0, 0, ANNA, 0);
        }
        Check.tape(x, new byte[14]);
        Check.refused(x, "row without room", x.row(0, 0), -5);
        Check.due("the tape stays", x.all(8), 14);
        x.end(13);
        Check.accepted(x, "row with room that it doesn't need", x.row(0, 0), 0);
        Check.tape(x, rows);
        x.end(7);
        Check.accepted(x, "the last name by a row", x.row(0, 0), 1);
        Check.tape(x, new byte[6]);
        Check.accepted(x, "a row of none with no room", x.row(0, 0), 0);
        Check.refused(x, "an empty row with no room", x.row(0, 0), -6);
    }

    private static void promise5() {
        FirstPolls x = land();
        x.name(0, 1, 30, 0, ANNA, 2);
        Check.orders(x, 0, "on");
        Check.refused(x, "off", x.off(0, -1, 0), -1);
        Check.refused(x, "off", x.off(0, 400, 0), -1);
        Check.refused(x, "off", x.off(5, 0, 400), -1);
        Check.refused(x, "off", x.off(1, 0, 0), -2);
        Check.refused(x, "off", x.off(-1, 0, 0), -2);
        Check.accepted(x, "off", x.off(0, 5, 8), 0);
        Check.refused(x, "off twice", x.off(0, 9, 9), -4);
        Check.due("on ahead of it", x.on(0, 4, 8), 1);
        Check.due("on from it on", x.on(0, 5, 8), 0);
        Check.due("on on the last day", x.on(0, 399, 399), 0);
        Check.due("on as not known", x.on(0, 5, 7), 1);
        Check.due("where it is all the same", x.where(0, 5, 8), 0);
    }

    private static void promise6() {
        FirstPolls x = land();
        x.name(0, 1, 30, 0, ANNA, 0);
        Check.refused(x, "moved", x.moved(0, 1, 400, 0), -1);
        Check.refused(x, "moved", x.moved(0, 1, 0, -1), -1);
        Check.refused(x, "moved", x.moved(1, 1, 0, 0), -2);
        Check.refused(x, "moved", x.moved(0, 3, 0, 0), -2);
        Check.refused(x, "moved to its own", x.moved(0, 0, 0, 0), -3);
        Check.accepted(x, "moved", x.moved(0, 2, 10, 20), 0);
        Check.refused(x, "moved twice", x.moved(0, 1, 0, 0), -4);
        Check.refused(x, "moved -3 ahead of -4", x.moved(0, 0, 0, 0), -3);
        Check.due("where", x.where(0, 9, 20), 0);
        Check.due("where", x.where(0, 10, 19), 0);
        Check.due("where", x.where(0, 10, 20), 2);
    }

    private static void promise7() {
        FirstPolls x = land();
        x.name(1, 3, 40, 2, Check.letters("mnop"), 6);
        x.moved(0, 2, 0, 0);
        int[] want = {1, 3, 40, 2, Check.letters("mnop")};
        for (int what = 0; what < 5; what++) {
            Check.due("of", x.of(0, what), want[what]);
        }
        for (int what : new int[] {-1, 5, 6, 100, Integer.MIN_VALUE, Integer.MAX_VALUE}) {
            Check.due("of what can't be", x.of(0, what), NONE);
        }
        Check.due("of none", x.of(1, 0), NONE);
        Check.due("of none", x.of(-1, 0), NONE);
    }

    private static void promise8() {
        FirstPolls x = land();
        x.name(1, 3, 40, 2, ANNA, 6);
        Check.due("where, not known", x.where(0, 50, 5), NONE);
        Check.due("where, known", x.where(0, 0, 6), 1);
        Check.due("where on no day", x.where(0, 400, 6), NONE);
        Check.due("where on no day", x.where(0, -1, 6), NONE);
        Check.due("where as known never", x.where(0, 0, 400), NONE);
        Check.due("where none", x.where(1, 0, 6), NONE);
    }

    private static void promise9() {
        FirstPolls x = land();
        for (int kind = 0; kind < 4; kind++) {
            x.name(1, 7, 20 + kind, kind, ANNA, 0);
        }
        x.moved(3, 2, 5, 0);
        Check.due("on without orders", x.on(0, 0, 0), 0);
        Check.due("on none", x.on(4, 0, 0), NONE);
        Check.due("on no day", x.on(0, 400, 0), NONE);
        Check.due("on no day", x.on(0, 0, -1), NONE);
        String[] words = {"wife", "late", "walker"};
        for (int i = 0; i < 3; i++) {
            FirstPolls y = land();
            for (int kind = 0; kind < 4; kind++) {
                y.name(1, 7, 20 + kind, kind, ANNA, 0);
            }
            Check.orders(y, 0, "on if " + words[i]);
            for (int kind = 0; kind < 4; kind++) {
                Check.due("on if " + words[i], y.on(kind, 0, 0), kind == i + 1 ? 1 : 0);
            }
        }
        Check.orders(x, 3, "on if age=20 and house=7 and place=1 and seat=1;on if moved;"
                + "on if place=2 and seat=5 and day>5;off if day=6");
        Check.due("on ahead of the order", x.on(0, 2, 0), 0);
        Check.due("on", x.on(0, 3, 0), 1);
        Check.due("on", x.on(1, 3, 0), 0);
        Check.due("not moved yet", x.on(3, 4, 0), 0);
        Check.due("moved", x.on(3, 5, 0), 1);
        Check.due("off goes before on", x.on(3, 6, 0), 0);
        Check.due("by its new place", x.on(3, 7, 0), 1);
        Check.orders(x, 0, "off if names+papers+given+put+spoilt+lost>0 or broken");
        Check.due("what is not asked of is 0", x.on(3, 7, 0), 1);
    }

    private static void promise10() {
        FirstPolls x = land();
        for (int i = 0; i < 6; i++) {
            x.name(i % 2, i, 20 + i, 0, ANNA, i);
        }
        Check.orders(x, 0, "on if age > 20");
        Check.due("roll", x.roll(0, 0, 5), 2);
        Check.due("roll", x.roll(1, 0, 5), 3);
        Check.due("roll as known", x.roll(1, 0, 4), 2);
        Check.due("roll", x.roll(2, 0, 5), 0);
        x.moved(1, 2, 9, 9);
        Check.due("roll of whom came", x.roll(2, 9, 9), 1);
        Check.due("roll of whom left", x.roll(1, 9, 9), 2);
        Check.due("roll of no place", x.roll(3, 0, 0), NONE);
        Check.due("roll on no day", x.roll(0, -1, 0), NONE);
        Check.due("roll on no day", x.roll(0, 0, 400), NONE);
    }

    private static void promise11() {
        FirstPolls x = land();
        x.name(0, 1, 30, 0, ANNA, 0);
        x.name(0, 1, 32, 1, ANNA, 9);
        x.name(0, 1, 33, 0, ANNA, 0);
        x.name(0, 2, 28, 0, Check.letters("nnaa"), 0);
        x.name(0, 2, 100, 0, Check.letters("zzzz"), 0);
        Check.due("like", x.like(0, 1), 6);
        Check.due("like, ages 3 apart", x.like(0, 2), 5);
        Check.due("like, letters place by place", x.like(0, 3), 3);
        Check.due("like the other way", x.like(3, 0), 3);
        Check.due("like nothing", x.like(0, 4), 0);
        Check.due("like itself", x.like(2, 2), NONE);
        Check.due("like none", x.like(0, 5), NONE);
        Check.due("like none", x.like(-1, 0), NONE);
    }

    private static void promise12() {
        FirstPolls x = land();
        for (int i = 0; i < 10; i++) {
            x.name(i % 3, 1, 30, 0, ANNA, 0);
        }
        Check.refused(x, "apart", x.apart(0, 10), -2);
        Check.refused(x, "apart", x.apart(-1, 0), -2);
        Check.refused(x, "apart of none with itself", x.apart(10, 10), -2);
        Check.refused(x, "apart", x.apart(3, 3), -3);
        int pairs = 0;
        for (int a = 0; a < 10; a++) {
            for (int b = a + 1; b < 10 && pairs < 40; b++) {
                pairs++;
                Check.accepted(x, "apart", a % 2 == 0 ? x.apart(a, b) : x.apart(b, a), pairs);
            }
        }
        Check.refused(x, "apart with no room", x.apart(8, 9), -5);
        Check.refused(x, "apart -3 ahead of -5", x.apart(3, 3), -3);
    }

    private static void promise13() {
        FirstPolls x = land();
        x.name(0, 1, 30, 0, ANNA, 0);
        x.name(1, 1, 30, 0, ANNA, 0);
        x.name(0, 1, 30, 0, ANNA, 0);
        x.name(2, 1, 33, 0, ANNA, 3);
        x.name(1, 2, 40, 0, ANNA, 0);
        Check.due("twice without orders", x.twice(0, 0, NONE), 0);
        Check.orders(x, 0, "on");
        Check.due("twice", x.twice(0, 0, NONE), 2);
        Check.due("twice 0", x.twice(0, 0, 0), 1);
        Check.due("twice 1", x.twice(0, 0, 1), 202);
        Check.due("twice 2", x.twice(0, 0, 2), NONE);
        Check.due("twice -2", x.twice(0, 0, -2), NONE);
        Check.due("twice as known", x.twice(0, 3, NONE), 5);
        Check.due("twice by the other name", x.twice(0, 3, 1), 3);
        Check.due("twice by the lower name", x.twice(0, 3, 2), 202);
        x.apart(2, 1);
        Check.due("twice but barred", x.twice(0, 3, NONE), 4);
        x.moved(0, 1, 5, 0);
        Check.due("twice by places of then", x.twice(5, 0, NONE), 1);
        Check.due("twice by places of then", x.twice(5, 0, 0), 2);
        Check.due("twice by places ahead of it", x.twice(4, 0, NONE), 1);
        Check.due("twice by places ahead of it", x.twice(4, 0, 0), 1);
        Check.due("twice on no day", x.twice(400, 0, NONE), NONE);
        Check.due("twice on no day", x.twice(0, -1, NONE), NONE);
        x.off(1, 0, 0);
        Check.due("twice when one is off", x.twice(0, 0, NONE), 0);
    }

    public static void main(String[] args) {
        promise1();
        promise2();
        promise3();
        promise4();
        promise5();
        promise6();
        promise7();
        promise8();
        promise9();
        promise10();
        promise11();
        promise12();
        promise13();
        Check.close("RollsTest");
    }
}
