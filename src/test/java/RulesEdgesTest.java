/** Terms II, what the orders tell, at its edges: in force, asked of whom, broken, the last that holds. */
public final class RulesEdgesTest {
    private static final int NONE = FirstPolls.NONE;
    private static final int ANNA = Check.letters("anna");
    private static final String[] PARTS = {"age", "house", "place", "seat", "day", "names", "papers",
        "given", "put", "spoilt", "lost"};
    private static final String[] PLAINS = {"wife", "late", "walker", "moved", "broken"};

    /** Two who are on in place 1 of seat 5, and a booth there of which all is told. */
    private static FirstPolls land() {
        FirstPolls x = new FirstPolls();
        x.place(4, 0, 0);
        x.place(5, 9, 9);
        x.name(0, 44, 33, 1, ANNA, 0);
        x.name(1, 45, 34, 0, ANNA, 0);
        x.moved(0, 1, 0, 0);
        x.booth(1);
        x.box(0, 7);
        x.hand(0, 1, 0, 7, 0);
        x.hand(0, 1, 0, 8, 0);
        x.paper(0, 0, 50, 0);
        x.paper(0, 1, 40, 0);
        x.paper(0, 2, 7, 0);
        x.count(0, 0, 0, 30, 0);
        return x;
    }

    private static FirstPolls land(String orders) {
        FirstPolls x = land();
        Check.due("order of " + orders, Check.orders(x, 0, orders), 0);
        return x;
    }

    /** "what it is not asked of is 0, not so": each word of a NAME, a PLACE, a BOOTH, nothing. */
    private static void askedOf() {
        int[] ofName = {33, 44, 1, 5, 6, 0, 0, 0, 0, 0, 0};
        int[] ofPlace = {0, 0, 1, 5, 6, 2, 0, 0, 0, 0, 0};
        int[] ofBooth = {0, 0, 1, 5, 6, 2, 50, 40, 30, 7, 3};
        int[] ofNothing = {0, 0, 0, 0, 6, 0, 0, 0, 0, 0, 0};
        for (int i = 0; i < PARTS.length; i++) {
            String word = PARTS[i];
            Check.due(word + " of a name", land("on;off if " + word + "=" + ofName[i]).on(0, 6, 0), 0);
            Check.due(word + " of a name", land("on;off if not " + word + "=" + ofName[i])
                    .on(0, 6, 0), 1);
            Check.due(word + " of a place", land("on;most " + word).rule(1, 6, 0, 0), ofPlace[i]);
            Check.due(word + " of a place", land("on;far " + word).rule(1, 6, 0, 1), ofPlace[i]);
            Check.due(word + " of a booth", land("on;again if " + word + "=" + ofBooth[i])
                    .tells(0, 6, 0, 7), 1);
            Check.due(word + " of a booth", land("on;void 0 if not " + word + "=" + ofBooth[i])
                    .tells(0, 6, 0, 8), 30);
            Check.due(word + " of nothing", land("on;few " + word).rule(1, 6, 0, 2), ofNothing[i]);
        }
        int[] plainOfName = {1, 0, 0, 1, 0};
        for (int i = 0; i < PLAINS.length; i++) {
            String word = PLAINS[i];
            Check.due(word + " of a name", land("on if " + word).on(0, 6, 0), plainOfName[i]);
            Check.due(word + " of another name", land("on if " + word).on(1, 6, 0), 0);
            Check.due(word + " of a place", land("on;most 5 if " + word).rule(1, 6, 0, 0), 1000);
            Check.due(word + " of a place", land("on;far 5 if " + word).rule(1, 6, 0, 1), 200);
            Check.due(word + " of a booth", land("on;again if " + word).tells(0, 6, 0, 7),
                    word.equals("broken") ? 1 : 0);
            Check.due(word + " of nothing", land("on;few 5 if " + word).rule(1, 6, 0, 2), 0);
        }
    }

    private static void ask(FirstPolls x, int which, int day) {
        switch (which) {
            case 0 -> Check.due("of a name", x.on(0, day, 0), 1);
            case 1 -> Check.due("of a place", x.rule(1, day, 0, 0), 502 + day);
            case 2 -> Check.due("of a place", x.rule(1, day, 0, 1), 70);
            case 3 -> Check.due("of a booth", x.tells(0, day, 0, 7), 1);
            case 4 -> Check.due("of a booth", x.tells(0, day, 0, 8), 30);
            case 5 -> Check.due("of nothing", x.rule(1, day, 0, 2), 7 + day);
            default -> Check.due("of all names", x.roll(1, day, 0), 2);
        }
    }

    /** What was asked of one is not told of the next. */
    private static void nothingIsLeftOver() {
        String orders = "on;off if names+papers+given+put+spoilt+lost>0 or broken;"
                + "most 500+day+names-age-house-papers-given-put-spoilt-lost;far 70;"
                + "far 9 if wife or moved or broken or late or walker;"
                + "again if age+house=0;void 0 if age+house>0 or wife or moved;"
                + "few 7+day+place+names+age+house+papers+put+spoilt+lost;few 9 if wife or broken";
        for (int first = 0; first < 7; first++) {
            for (int second = 0; second < 7; second++) {
                FirstPolls x = land(orders);
                ask(x, first, 3);
                ask(x, second, 3);
                ask(x, first, 4);
                ask(x, second, 4);
                x.terms(20, 0);
                ask(x, second, 4);
            }
        }
    }

    /** "moved: it has MOVED by then as known; place, seat: its PLACE of then". */
    private static void ofThen() {
        FirstPolls x = new FirstPolls();
        x.place(2, 0, 0);
        x.place(3, 0, 0);
        x.name(0, 1, 30, 0, ANNA, 0);
        x.moved(0, 1, 10, 20);
        Check.orders(x, 0, "on if moved and place=1 and seat=3 or day=9 and place=0 and seat=2 or "
                + "day=11 and not moved and place=0 and seat=2");
        Check.due("moved", x.on(0, 10, 20), 1);
        Check.due("ahead of it", x.on(0, 9, 20), 1);
        Check.due("not known", x.on(0, 10, 19), 0);
        Check.due("not known, so of its own place", x.on(0, 11, 19), 1);
        Check.due("known", x.on(0, 399, 399), 1);
    }

    /** "from d or ahead of it on": on the first and on the last DAY. */
    private static void inForceByDay() {
        for (int from : new int[] {0, 1, 200, 399}) {
            FirstPolls x = new FirstPolls();
            Check.due("order", Check.orders(x, from, "few 5;on"), 0);
            Check.due("from then on", x.force(0, 0, from), 1);
            Check.due("from then on", x.force(0, 1, 399), 1);
            Check.due("few from then on", x.rule(0, from, 0, 2), 5);
            if (from > 0) {
                Check.due("not yet", x.force(0, 0, from - 1), 0);
                Check.due("not at first", x.force(0, 1, 0), 0);
                Check.due("few not yet", x.rule(0, from - 1, 399, 2), 0);
            }
        }
    }

    /** "that no "strike" in force of a TEXT told later strikes": a chain of strikes through all. */
    private static void strikesOfStrikes() {
        FirstPolls x = new FirstPolls();
        x.place(0, 0, 0);
        Check.orders(x, 0, "most 1;far 7");
        for (int i = 1; i < 20; i++) {
            Check.orders(x, i, "most " + i + ";strike " + (i - 1) + " clause 1");
        }
        for (int day = 0; day < 20; day++) {
            for (int text = 0; text < 20; text++) {
                int want = text <= day && (day - text) % 2 == 0 ? 1 : 0;
                Check.due("force of text " + text + " on " + day, x.force(text, 1, day), want);
                Check.due("what is not struck", x.force(text, 0, day), text <= day ? 1 : 0);
            }
            Check.due("far", x.rule(0, day, 0, 1), day % 2 == 0 ? 7 : 200);
        }
    }

    /** "(TEXT a's CLAUSE b, a told ahead of it)": what a strike can't reach. */
    private static void strikesThatHitNothing() {
        FirstPolls x = new FirstPolls();
        Check.orders(x, 0, "on;on");
        Check.orders(x, 0, "on;on;strike 0 clause 2;strike 0 clause 11;strike 1 clause 0;"
                + "strike 1 clause 1;strike 1 clause 4;strike 2 clause 0;strike 19 clause 0");
        Check.orders(x, 0, "on;strike 1 clause 9;strike 3 clause 0");
        Check.orders(x, 0, "on");
        int[] clauses = {2, 9, 3, 1};
        for (int text = 0; text < 4; text++) {
            for (int clause = 0; clause < clauses[text]; clause++) {
                Check.due("force " + text + " " + clause, x.force(text, clause, 0), 1);
            }
            Check.due("no more clauses", x.force(text, clauses[text], 0), NONE);
        }
        Check.orders(x, 0, "strike 0 clause 1;strike 1 clause 8;strike 2 clause 0;strike 3 clause 0");
        int[] struck = {1, 8, 0, 0};
        for (int text = 0; text < 4; text++) {
            for (int clause = 0; clause < clauses[text]; clause++) {
                Check.due("force " + text + " " + clause, x.force(text, clause, 0),
                        clause == struck[text] ? 0 : 1);
            }
        }
    }

    /** A number beyond a TEXT's own CLAUSES is none of the next TEXT's, nor is that of a "void". */
    private static void strikesBesideTexts() {
        FirstPolls x = new FirstPolls();
        Check.orders(x, 0, "few 1;few 2");
        Check.orders(x, 0, "few 3");
        Check.orders(x, 0, "few 4;few 5");
        Check.orders(x, 0, "strike 0 clause 2;strike 1 clause 1;void 1;void 2;strike 0 clause 11");
        int[] clauses = {2, 1, 2, 5};
        for (int text = 0; text < 4; text++) {
            for (int clause = 0; clause < clauses[text]; clause++) {
                Check.due("force " + text + " " + clause, x.force(text, clause, 0), 1);
            }
        }
        Check.due("few", x.rule(0, 0, 0, 2), 5);
    }

    /** It counts which was told later, not which is in force from a later DAY on. */
    private static void strikesByTelling() {
        FirstPolls x = new FirstPolls();
        Check.orders(x, 5, "few 3;few 4");
        Check.orders(x, 0, "strike 0 clause 1");
        Check.orders(x, 8, "strike 0 clause 1;strike 0 clause 0");
        Check.orders(x, 9, "strike 1 clause 0");
        Check.due("not yet in force", x.force(0, 0, 4), 0);
        Check.due("struck by an order of an earlier day", x.force(0, 1, 5), 0);
        Check.due("not struck yet", x.force(0, 0, 7), 1);
        Check.due("struck from its day on", x.force(0, 0, 8), 0);
        Check.due("struck by two, one of which is struck", x.force(0, 1, 9), 0);
        Check.due("the struck one", x.force(1, 0, 9), 0);
        Check.due("few", x.rule(0, 5, 0, 2), 3);
        Check.due("few", x.rule(0, 8, 0, 2), 0);
        FirstPolls y = new FirstPolls();
        Check.orders(y, 9, "strike 1 clause 0;few 1");
        Check.orders(y, 0, "few 2");
        Check.due("told ahead, it strikes nothing", y.force(1, 0, 9), 1);
        Check.due("the last as told", y.rule(0, 9, 0, 2), 2);
        Check.orders(y, 0, "strike 1 clause 0");
        Check.due("the last that is not struck", y.rule(0, 9, 0, 2), 1);
        Check.due("none is left", y.rule(0, 8, 0, 2), 0);
    }

    private static int few(String sum) {
        FirstPolls x = new FirstPolls();
        Check.due("order of few " + sum, Check.orders(x, 0, "few 77;few " + sum), 0);
        return x.rule(0, 9, 0, 2);
    }

    /** "Beyond 1,000,000,000 either way, or divided by 0, it is BROKEN; / is cut towards 0". */
    private static void sums() {
        String[] broken = {"100000*10000+1", "100000*10001", "0-100000*10000-1", "65536*65536",
            "46341*46341", "100000*100000", "100000*100000*100000*100000*100000", "65536*65536+5",
            "100000*100000-100000*100000", "100000*100000/100000", "[100000*100000]/[100000*100000]",
            "0*[100000*100000]", "0*[1/0]", "1/0", "0/0", "[0-1]/0", "5/[day-9]", "1/[2/3]",
            "1/0*0", "9-[9/0]", "100000*10000+100000*10000-100000*10000",
            "0-100000*10000-100000*10000+100000*10000", "[0-65536]*65536", "[0-46341]*46341"};
        for (String sum : broken) {
            Check.due(sum, few(sum), 77);
            Check.due(sum, few("5 if " + sum + "<1"), 77);
            Check.due(sum, few("5 if not " + sum + "<1"), 77);
            Check.due(sum, few("5 if 1<" + sum), 77);
        }
        String[] sums = {"100000*10000", "100000*9999+99999+1", "0-100000*10000+100000*10000+4",
            "[0-100000]*[0-10000]", "7/2", "10+[0-7]/2", "10+7/[0-2]", "[0-7]/[0-2]", "10-1/2",
            "10+[0-1]/2", "0/5", "2*3/4", "3/4*2", "2-3-4+10", "100/10/5", "2+3*4-6/3", "day/4*4",
            "100000*10000/[100000*10000]", "[0-100000*10000]/[0-100000*10000]", "0-5", "1-1"};
        int[] wants = {1_000_000_000, 1_000_000_000, 4, 1_000_000_000, 3, 7, 7, 3, 10, 10, 0, 1, 0,
            5, 2, 12, 8, 1, 1, 0, 0};
        for (int i = 0; i < sums.length; i++) {
            Check.due(sums[i], few(sums[i]), wants[i]);
        }
    }

    /** "CLAUSE HOLDS, if ...", ""or", "and" ask what stands behind only if it can still matter". */
    private static void tests() {
        String so = "1=1";
        String not = "1=2";
        String lost = "1/0=1";
        String[][] wants = {
            {so + " or " + lost, "1"}, {lost + " or " + so, "0"}, {not + " or " + lost, "0"},
            {not + " and " + lost, "0"}, {"not(" + not + " and " + lost + ")", "1"},
            {"not(" + lost + " and " + not + ")", "0"}, {"not(" + so + " and " + lost + ")", "0"},
            {so + " or " + lost + " or " + lost, "1"}, {not + " or " + so + " or " + lost, "1"},
            {not + " and " + lost + " or " + so, "1"}, {so + " or " + so + " and " + lost, "1"},
            {not + " and " + lost + " and " + lost + " or " + so, "1"},
            {not + " and (" + lost + " or " + so + ") or " + so, "1"},
            {"(" + so + " or " + lost + ") and " + so, "1"},
            {"(" + so + " or " + lost + ") and " + lost, "0"},
            {"(" + not + " and " + lost + ") or " + not, "0"},
            {so + " and (" + not + " or " + lost + ")", "0"},
            {"not " + so + " and " + so, "0"}, {"not " + so + " or " + so, "1"},
            {so + " and not " + so, "0"}, {so + " and not " + not, "1"},
            {"not(not(" + so + "))", "1"}, {"not(not(" + not + "))", "0"},
            {"not(not(" + so + ")) and not(" + not + ")", "1"}, {"not not not " + so, "0"},
            {"not not not not " + so, "1"}, {"not " + lost, "0"}, {"not not " + lost, "0"},
            {"not(" + so + ")and " + so, "0"}, {"not(" + so + ")or " + not, "0"},
            {"(" + so + ")", "1"}, {"((((((((" + so + "))))))))", "1"},
            {not + " or " + not + " or " + so, "1"}, {so + " and " + so + " and " + not, "0"},
            {not + " and " + so + " or " + not + " or " + so + " and " + so, "1"},
            {not + " and (" + so + " or " + so + ")", "0"},
            {"(" + not + " or " + so + ") and (" + so + " or " + not + ")", "1"},
            {"0<1", "1"}, {"1<1", "0"}, {"1<0", "0"}, {"0>1", "0"}, {"1>1", "0"}, {"1>0", "1"},
            {"0=1", "0"}, {"1=1", "1"}, {"0-1<0", "1"}, {"0-2<0-1", "1"}, {"0-1=1", "0"},
            {"[0-1]*[0-1]=1", "1"}, {"100000*10000>0-100000*10000", "1"}};
        for (String[] want : wants) {
            Check.due(want[0], few("5 if " + want[0]), want[1].equals("1") ? 5 : 77);
        }
    }

    /** "an "on" HOLDS for it, and no "off"": what is broken holds neither way. */
    private static void onAndOff() {
        String[] orders = {"on", "on;off if 1/0=1", "on;off if not 1/0=1", "on if 1/0=1", "off",
            "on if not 1/0=1", "on;off if 1=1", "off if 1=2;on", "on if 1=2;on if 1=1",
            "off;on;on", "on;off if 1=2 or age>119", "on if 60/[age-120]<0", "again;most 5"};
        int[] young = {1, 1, 1, 0, 0, 0, 0, 1, 1, 0, 1, 0, 0};
        int[] old = {1, 1, 1, 0, 0, 0, 0, 1, 1, 0, 0, 0, 0};
        int[] middle = {1, 1, 1, 0, 0, 0, 0, 1, 1, 0, 1, 1, 0};
        for (int i = 0; i < orders.length; i++) {
            FirstPolls x = new FirstPolls();
            x.place(0, 0, 0);
            x.name(0, 0, 0, 0, ANNA, 0);
            x.name(0, 0, 120, 0, ANNA, 0);
            x.name(0, 0, 60, 0, ANNA, 0);
            Check.orders(x, 0, orders[i]);
            Check.due(orders[i] + " of age 0", x.on(0, 0, 0), young[i]);
            Check.due(orders[i] + " of age 120", x.on(1, 0, 0), old[i]);
            Check.due(orders[i] + " of age 60", x.on(2, 0, 0), middle[i]);
            Check.due(orders[i] + " in all", x.roll(0, 0, 0), young[i] + old[i] + middle[i]);
        }
    }

    private static void rules(String orders, int most, int far, int few) {
        FirstPolls x = new FirstPolls();
        x.place(0, 0, 0);
        Check.due("order of " + orders, Check.orders(x, 0, orders), 0);
        Check.due("most by " + orders, x.rule(0, 0, 0, 0), most);
        Check.due("far by " + orders, x.rule(0, 0, 0, 1), far);
        Check.due("few by " + orders, x.rule(0, 0, 0, 2), few);
    }

    /** "what the last that HOLDS tells ..., at least 0; 1000, 200, 0 without". */
    private static void theLastThatHolds() {
        rules("on", 1000, 200, 0);
        rules("most 0;far 0;few 0", 0, 0, 0);
        rules("most 1;far 2;few 3", 1, 2, 3);
        rules("most 0-1;far 0-1;few 0-1", 0, 0, 0);
        rules("most 0-100000*10000;far 0-5;few 5-6", 0, 0, 0);
        rules("most 100000*10000;far 100000*10000;few 100000*10000", 1_000_000_000, 1_000_000_000,
                1_000_000_000);
        rules("most 5;most 6;far 7;far 6;few 1;few 0", 6, 6, 0);
        rules("most 5;most 1/0;far 5;far 1 if 1/0=1;few 5;few 1 if 1=2", 5, 5, 5);
        rules("most 1/0;far 1 if 1/0=1;few 1 if 1=2", 1000, 200, 0);
        rules("most 1/0 if 1=1;far 0/0 if 1=2;few 1/0 if 1/0=1", 1000, 200, 0);
        rules("most 3 if 1=1;far 3 if 1=1 or 1/0=1;few 3 if 1=2 and 1/0=1 or 1=1", 3, 3, 3);
        rules("most 0-1;most 5 if 1=2;far 0-9;far 1/0;few 0-9;few 1/0", 0, 0, 0);
    }

    public static void main(String[] args) {
        askedOf();
        nothingIsLeftOver();
        ofThen();
        inForceByDay();
        strikesOfStrikes();
        strikesThatHitNothing();
        strikesBesideTexts();
        strikesByTelling();
        sums();
        tests();
        onAndOff();
        theLastThatHolds();
        Check.close("RulesEdgesTest");
    }
}
