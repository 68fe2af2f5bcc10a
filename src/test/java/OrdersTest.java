/** Promises 14 to 19: the tape, the language of the orders, what is in force, what is ruled. */
public final class OrdersTest {
    private static final int NONE = FirstPolls.NONE;

    private static void promise14() {
        FirstPolls x = new FirstPolls();
        for (int i = 1; i <= 20; i++) {
            Check.due("feed", x.feed(0, 0, 0, 0, 0), 20 * i);
        }
        Check.due("feed beyond 400", x.feed(0, 0, 0, 0, 0), NONE);
        Check.due("the tape", x.all(8), 400);
        x.end(381);
        Check.due("feed beyond 400", x.feed(0, 0, 0, 0, 0), NONE);
        x.end(380);
        Check.due("feed to 400", x.feed(0, 0, 0, 0, 0), 400);
        x.end(0);
        x.place(0, 0, 0);
        x.feed(0x05060061, 0x626364ff, -1, -1, -1);
        Check.due("row by bytes, the highest first", x.row(0, 0), 1);
        Check.due("house", x.of(0, 1), 5);
        Check.due("age", x.of(0, 2), 6);
        Check.due("letters", x.of(0, 4), Check.letters("abcd"));
    }

    private static void promise15() {
        FirstPolls x = new FirstPolls();
        x.feed(1, 2, 3, 4, 5);
        Check.due("end", x.end(21), NONE);
        Check.due("end", x.end(-1), NONE);
        Check.due("end", x.end(Integer.MIN_VALUE), NONE);
        Check.due("end", x.end(20), 20);
        Check.due("end", x.end(7), 7);
        Check.due("end", x.end(8), NONE);
        Check.due("bytes", x.all(8), 7);
        Check.due("end", x.end(0), 0);
    }

    private static void promise16() {
        FirstPolls x = new FirstPolls();
        Check.tape(x, "on");
        Check.refused(x, "order", x.order(-1), -1);
        Check.refused(x, "order", x.order(400), -1);
        Check.due("the tape stays", x.all(8), 2);
        Check.accepted(x, "order", x.order(399), 0);
        Check.due("the tape is empty", x.all(8), 0);
        Check.refused(x, "order of nothing", x.order(0), -6);
        Check.tape(x, "onn");
        Check.refused(x, "order", x.order(0), -6);
        Check.due("the tape is empty", x.all(8), 0);
        for (int i = 1; i < 20; i++) {
            Check.due("order", Check.orders(x, 0, "on"), i);
        }
        Check.tape(x, "onn");
        Check.refused(x, "order 20", x.order(0), -5);
        Check.refused(x, "order -1 ahead of -5", x.order(400), -1);
        Check.due("the tape stays", x.all(8), 3);
        Check.due("texts", x.all(2), 20);
    }

    private static void promise17() {
        FirstPolls x = new FirstPolls();
        Check.due("fault ahead of any", x.fault(), NONE);
        Check.faulty(x, "", 0);
        Check.faulty(x, "   ", 3);
        Check.faulty(x, "on ;", 4);
        Check.faulty(x, "on ; ", 5);
        Check.faulty(x, "; on", 0);
        Check.faulty(x, "  oN", 2);
        Check.faulty(x, "oN", 0);
        Check.faulty(x, "on\non", 2);
        Check.faulty(x, "on off", 3);
        Check.faulty(x, "offf", 0);
        Check.faulty(x, "void", 4);
        Check.faulty(x, "void a", 5);
        Check.faulty(x, "void 10", 5);
        Check.faulty(x, "void 9 9", 7);
        Check.faulty(x, "void 9 + 1", 7);
        Check.faulty(x, "strike 20 clause 0", 7);
        Check.faulty(x, "strike 19 claus 0", 10);
        Check.faulty(x, "strike 19 clause 12", 17);
        Check.faulty(x, "strike 1 clause 1 if wife", 18);
        Check.faulty(x, "strike 1", 8);
        Check.faulty(x, "most wife", 5);
        Check.faulty(x, "most (1)", 5);
        Check.faulty(x, "most 1 < 2", 7);
        Check.faulty(x, "most 1 and", 7);
        Check.faulty(x, "most 1 if", 9);
        Check.faulty(x, "most 1 + + 1", 9);
        Check.faulty(x, "most 1 - ", 9);
        Check.faulty(x, "most -1", 5);
        Check.faulty(x, "most [1 if wife]", 8);
        Check.faulty(x, "most [1)", 7);
        Check.faulty(x, "most 100001", 5);
        Check.faulty(x, "most 99999999999999999999999", 5);
        Check.faulty(x, "most 4294967297", 5);
        Check.faulty(x, "on if [wife]", 7);
        Check.faulty(x, "on if (age)", 10);
        Check.faulty(x, "on if (1) = 1", 8);
        Check.faulty(x, "on if wife + 1", 11);
        Check.faulty(x, "on if 1 = 1 = 1", 12);
        Check.faulty(x, "on if 1 == 1", 9);
        Check.faulty(x, "on if not", 9);
        Check.faulty(x, "on if and", 6);
        Check.faulty(x, "on if wife or", 13);
        Check.faulty(x, "on if (wife or late", 19);
        Check.faulty(x, "on if wife)", 10);
        Check.faulty(x, "on if clause = 1", 6);
        Check.faulty(x, "on if age 5", 10);
        Check.faulty(x, "on if back = 0", 6);
        Check.faulty(x, "on if \u00e9", 6);
        Check.fine(x, "on");
        Check.fine(x, " on ; off;void 09;again;most 1;far 1;few 1;strike 019 clause 011 ");
        Check.fine(x, "on if not not(wife)and not1=1or late");
        Check.fine(x, "most[100000]*2/[age-1]+house if(broken or((walker)))and[put]>lost");
        Check.tape(x, "on");
        x.order(400);
        Check.due("fault stays if nothing was read", x.fault(), NONE);
        x.end(0);
        Check.faulty(x, "on on", 3);
        x.order(-1);
        Check.due("fault stays if nothing was read", x.fault(), 3);
        x.image(0);
        Check.fine(x, "on");
        x.back(0);
        Check.due("an image keeps no fault", x.fault(), NONE);
    }

    private static void limitsOfTexts() {
        FirstPolls x = new FirstPolls();
        Check.fine(x, Check.times("on;", 11) + "on");
        Check.faulty(x, Check.times("on;", 12) + "on", 36);
        Check.faulty(x, Check.times("on;", 12) + "  2", 38);
        Check.faulty(x, Check.times("on;", 12), 36);
        Check.fine(x, "far " + Check.times("1+", 49) + "1");
        Check.faulty(x, "far " + Check.times("1+", 50) + "1", 104);
        Check.faulty(x, "far " + Check.times("1+", 50) + "+", 104);
        Check.faulty(x, "on if " + Check.times("wife or ", 24) + "1=1;far "
                + Check.times("day+", 24) + "1", 6 + 192 + 8 + 96);
        Check.fine(x, Check.times("void 1;", 10) + "strike 1 clause 1;far "
                + Check.times("1+", 49) + "1");
        Check.fine(x, "far " + Check.times("[", 8) + "1" + Check.times("]", 8));
        Check.faulty(x, "far " + Check.times("[", 9) + "1" + Check.times("]", 9), 12);
        Check.faulty(x, "on if " + Check.times("(", 4) + Check.times("[", 5) + "1", 14);
        Check.fine(x, "on if " + Check.times("(", 4) + Check.times("[", 4) + "1"
                + Check.times("]", 4) + "=[[1]]" + Check.times(")", 4));
        Check.fine(x, "on if " + Check.times("(wife)or", 40) + "(wife)");
        Check.fine(x, "on if " + Check.times("not ", 97) + "late");
        Check.due("the longest text", x.all(8), 0);
        Check.fine(x, "on" + Check.times(" ", 398));
        Check.faulty(x, Check.times(" ", 400), 400);
        Check.faulty(x, Check.times("+", 400), 0);
        Check.faulty(x, "on" + Check.times(";", 398), 3);
        Check.fine(x, "on if " + Check.times("not(", 8) + "1=1" + Check.times(")", 8) + "and"
                + Check.times("(not1=1)and", 23) + "1=1");
    }

    private static void promise18() {
        FirstPolls x = new FirstPolls();
        Check.orders(x, 5, "on;off");
        Check.orders(x, 3, "strike 0 clause 1;strike 1 clause 0;strike 2 clause 0;strike 0 clause 9");
        Check.orders(x, 7, "strike 1 clause 0;on");
        Check.due("ahead of its day", x.force(0, 0, 4), 0);
        Check.due("from its day on", x.force(0, 0, 5), 1);
        Check.due("struck", x.force(0, 1, 5), 0);
        Check.due("the strike", x.force(1, 0, 3), 1);
        Check.due("the strike ahead of its day", x.force(1, 0, 2), 0);
        Check.due("it strikes none of its own text", x.force(1, 0, 6), 1);
        Check.due("it strikes no later text", x.force(2, 0, 7), 1);
        Check.due("the strike is struck", x.force(1, 0, 7), 0);
        Check.due("so what it struck is in force", x.force(0, 1, 7), 1);
        Check.due("and on the last day", x.force(0, 1, 399), 1);
        Check.orders(x, 0, "strike 3 clause 1;on;strike 3 clause 3;on");
        Check.due("it strikes none of its own text", x.force(3, 1, 0), 1);
        Check.due("it strikes none of its own text", x.force(3, 3, 0), 1);
        Check.due("no such text", x.force(4, 0, 0), NONE);
        Check.due("no such text", x.force(-1, 0, 0), NONE);
        Check.due("no such clause", x.force(0, 2, 0), NONE);
        Check.due("no such clause", x.force(0, -1, 0), NONE);
        Check.due("no such day", x.force(0, 0, 400), NONE);
        Check.due("no such day", x.force(0, 0, -1), NONE);
    }

    private static int few(String sum, int day) {
        FirstPolls x = new FirstPolls();
        Check.orders(x, 0, "few 77;few " + sum);
        return x.rule(0, day, 0, 2);
    }

    private static boolean isSo(String test) {
        return few("5 if " + test, 9) == 5;
    }

    private static void sumsAndTests() {
        Check.due("sum", few("2+3*4", 0), 14);
        Check.due("sum", few("[2+3]*4", 0), 20);
        Check.due("sum", few("20-5-4", 0), 11);
        Check.due("sum", few("100/7/2", 0), 7);
        Check.due("sum", few("day*day", 13), 169);
        Check.due("cut towards 0", few("10-[1-8]/2", 0), 13);
        Check.due("cut towards 0", few("[0-7]/2+5", 0), 2);
        Check.due("at least 0", few("1-2", 0), 0);
        Check.due("just not beyond", few("100000*10000", 0), 1_000_000_000);
        Check.due("beyond", few("100000*10000+1", 0), 77);
        Check.due("beyond on the way", few("100000*10000*2/2", 0), 77);
        Check.due("beyond the other way", few("0-100000*10000-1+5", 0), 77);
        Check.due("just not beyond the other way", few("0-100000*10000+100000*10000+3", 0), 3);
        Check.due("divided by 0", few("1/[day-day]", 3), 77);
        Check.due("0 divided by 0", few("0/0", 3), 77);
        Check.due("what is asked of nothing", few("age+house+place+seat+names+papers+given+put+"
                + "spoilt+lost+4", 7), 4);
        String[] so = {"1<2", "2>1", "2=2", "not 1=2", "not not 1=1", "1=1 or 1/0=1",
            "not(1=2 and 1/0=1)", "1=1 or 1=1 and 1=2", "not(1=2 or 1=1)or 3=3",
            "(1=2 or 1=1) and 1=1", "1=2 and 1=1 or 1=1", "not 1=2 and 1=1", "day = 9"};
        for (String test : so) {
            Check.due(test, isSo(test) ? 1 : 0, 1);
        }
        String[] not = {"1<1", "1>1", "1=2", "1/0=1", "not 1/0=1", "1=2 or 1/0=1", "1/0=1 or 1=1",
            "1=1 and 1/0=1", "1/0=1 and 1=2", "not(1/0=1 and 1=2)", "wife", "late", "walker",
            "moved", "broken", "(1=1 or 1=1) and 1=2", "not(1=1 or 1=2)", "not 1=1 or 1=2"};
        for (String test : not) {
            Check.due(test, isSo(test) ? 1 : 0, 0);
        }
    }

    private static void promise19() {
        FirstPolls x = new FirstPolls();
        x.place(3, 0, 0);
        x.place(4, 0, 0);
        Check.due("most without", x.rule(0, 0, 0, 0), 1000);
        Check.due("far without", x.rule(0, 0, 0, 1), 200);
        Check.due("few without", x.rule(0, 0, 0, 2), 0);
        x.name(1, 0, 30, 0, Check.letters("anna"), 4);
        Check.orders(x, 0, "most 10+place;most 5*seat if place=1;most 1/0;far names+20;few 6;on");
        Check.orders(x, 2, "far 3 if names=0;few day");
        Check.due("most", x.rule(0, 0, 0, 0), 10);
        Check.due("the last most that holds", x.rule(1, 0, 0, 0), 20);
        Check.due("far", x.rule(1, 0, 3, 1), 20);
        Check.due("far by names as known", x.rule(1, 0, 4, 1), 21);
        Check.due("far of the later text", x.rule(1, 2, 3, 1), 3);
        Check.due("far of the later text does not hold", x.rule(1, 2, 4, 1), 21);
        Check.due("few", x.rule(0, 1, 0, 2), 6);
        Check.due("few of the later text", x.rule(-5, 8, 0, 2), 8);
        Check.due("no place", x.rule(2, 0, 0, 0), NONE);
        Check.due("no place", x.rule(-1, 0, 0, 1), NONE);
        Check.due("no day", x.rule(0, 400, 0, 2), NONE);
        Check.due("no day", x.rule(0, 0, -1, 2), NONE);
        Check.due("no such what", x.rule(0, 0, 0, 3), NONE);
        Check.due("no such what", x.rule(0, 0, 0, -1), NONE);
        Check.orders(x, 0, "strike 0 clause 1");
        Check.due("most without what is struck", x.rule(1, 0, 0, 0), 11);
    }

    public static void main(String[] args) {
        promise14();
        promise15();
        promise16();
        promise17();
        limitsOfTexts();
        promise18();
        sumsAndTests();
        promise19();
        Check.close("OrdersTest");
    }
}
