import java.util.Set;

/** Terms II, sentence by sentence, at their edges: the tape, its tokens, texts and their limits. */
public final class OrdersEdgesTest {
    private static final int NONE = FirstPolls.NONE;
    private static final String[] PARTS = {"age", "house", "place", "seat", "day", "names", "papers",
        "given", "put", "spoilt", "lost"};
    private static final String[] PLAINS = {"wife", "late", "walker", "moved", "broken"};

    private static FirstPolls land() {
        FirstPolls x = new FirstPolls();
        x.place(3, 0, 0);
        return x;
    }

    private static void fine(String text) {
        Check.fine(new FirstPolls(), text);
    }

    private static void faulty(String text, int place) {
        Check.faulty(new FirstPolls(), text, place);
    }

    /** "a TAPE of at most 400 bytes", and "Twenty bytes come behind the TAPE". */
    private static void tape() {
        FirstPolls x = land();
        Check.due("feed", x.feed(0x6661_7220, 0x3737_3737, 0, 0, 0), 20);
        Check.due("end", x.end(5), 5);
        Check.due("behind what is left", x.feed(0x3920_2020, 0x2020_2020, 0x2020_2020, 0x2020_2020,
                0x2020_2020), 25);
        Check.accepted(x, "order", x.order(0), 0);
        Check.due("far 79", x.rule(0, 0, 0, 1), 79);
        for (int bytes = 0; bytes <= 400; bytes += 20) {
            Check.due("feed", x.feed(-1, -1, -1, -1, -1), bytes < 400 ? bytes + 20 : NONE);
        }
        for (int n = 399; n > 380; n--) {
            Check.due("end", x.end(n), n);
            Check.due("more than 400", x.feed(1, 1, 1, 1, 1), NONE);
            Check.due("as it was", x.all(8), n);
        }
        Check.due("end", x.end(380), 380);
        Check.due("400 in all", x.feed(1, 1, 1, 1, 1), 400);
        Check.due("end of all", x.end(400), 400);
        Check.due("end of nothing", x.end(0), 0);
        Check.due("end of nothing again", x.end(0), 0);
        Check.due("end of more", x.end(1), NONE);
    }

    /** The longest TEXT is read to its last byte. */
    private static void theLongestText() {
        FirstPolls x = land();
        Check.fine(x, "far 1;" + " ".repeat(389) + "few 2");
        Check.due("its end counts", x.rule(0, 0, 0, 2), 2);
        Check.faulty(x, "far 1;" + " ".repeat(389) + "few +", 399);
        Check.faulty(x, "far 1;" + " ".repeat(390) + "few ", 400);
        Check.faulty(x, "x".repeat(400), 0);
        Check.faulty(x, "far " + "9".repeat(396), 4);
        Check.fine(x, "far " + "0".repeat(395) + "9");
        Check.due("a NUMBER of many digits", x.rule(0, 0, 0, 1), 9);
        Check.faulty(x, "far 1" + ";".repeat(395), 6);
        Check.faulty(x, "on if " + "(".repeat(394), 14);
        Check.faulty(x, "on if " + "not ".repeat(98) + "no", 398);
        Check.due("only those that could be", x.all(2), 2);
    }

    /** "longest rows of letters a .. z, of digits, single other bytes, any blanks (32) between". */
    private static void tokens() {
        fine("void1if1=1and2=2or3=3");
        fine("strike1clause2;on");
        fine("   most   1  +  2   if   age   <   3   ");
        faulty("onif wife", 0);
        faulty("on ifwife", 3);
        faulty("on if wifeor late", 6);
        faulty("most 1 0", 7);
        faulty("most 10age", 7);
        faulty("most age10", 8);
        faulty("most age house", 9);
        faulty("void 1 0", 7);
        faulty("ON", 0);
        faulty("oN", 0);
        faulty("on:", 2);
        faulty("most 1:", 6);
        faulty("most 1/:", 7);
        faulty("most `", 5);
        faulty("most {", 5);
        faulty("most 1,000", 6);
        faulty("most 1.5", 6);
        for (int sign : new int[] {0, 9, 10, 13, 31, 33, 127, 128, 160, 255}) {
            faulty("on" + (char) sign, 2);
            faulty((char) sign + "on", 0);
            faulty("on " + (char) sign + ";on", 3);
        }
        String[] wrong = {"o", "onn", "of", "offf", "voi", "strik", "strikes", "again1", "agai"};
        for (String word : wrong) {
            faulty(word, word.equals("again1") ? 5 : 0);
        }
        faulty("strike 1 clauses 1", 9);
        faulty("strike 1 claus 1", 9);
        for (String word : PARTS) {
            faulty("most " + word + "x", 5);
            faulty("most " + word.substring(1), 5);
            faulty("most " + word.substring(0, word.length() - 1), 5);
        }
        for (String word : PLAINS) {
            faulty("on if " + word + "s", 6);
            faulty("on if " + word.substring(1), 6);
        }
    }

    /** What was on the TAPE behind its end is no part of a TOKEN. */
    private static void bytesBehindTheEnd() {
        FirstPolls x = land();
        Check.tape(x, "far 123");
        x.end(6);
        Check.accepted(x, "order", x.order(0), 0);
        Check.due("far 12", x.rule(0, 0, 0, 1), 12);
        Check.tape(x, "onnnnnn");
        x.end(2);
        Check.accepted(x, "order", x.order(0), 1);
        Check.tape(x, "far 123456789");
        x.end(10);
        Check.accepted(x, "a NUMBER too great with what is behind", orderOf(x, 9), 2);
        Check.due("far 12345", x.rule(0, 0, 0, 1), 12_345);
    }

    private static int orderOf(FirstPolls x, int bytes) {
        x.end(bytes);
        return x.order(0);
    }

    /** "CLAUSE {";" CLAUSE}, 12 at most (FAULT at the 13th's first TOKEN)". */
    private static void clauses() {
        String twelve = "on;off;void 1;again;most 1;far 1;few 1;strike 1 clause 1;on;on;on;on";
        fine(twelve);
        fine(twelve + "  ");
        int length = twelve.length();
        faulty(twelve + ";", length + 1);
        faulty(twelve + ";   ", length + 4);
        faulty(twelve + ";on", length + 1);
        faulty(twelve + " ;   on;on", length + 5);
        faulty(twelve + ";nothing", length + 1);
        faulty(twelve + ";;", length + 1);
        faulty(twelve + " on", length + 1);
        faulty("on;;on", 3);
        faulty(";", 0);
        faulty(" ; on", 1);
        faulty("on;on;", 6);
    }

    /** Each HEAD takes what it takes, and nothing less or more. */
    private static void heads() {
        for (String head : new String[] {"on", "off", "again"}) {
            fine(head);
            fine(head + " if late");
            faulty(head + " 1", head.length() + 1);
            faulty(head + " if", head.length() + 3);
            faulty(head + " late", head.length() + 1);
        }
        for (String head : new String[] {"most", "far", "few"}) {
            fine(head + " 1");
            fine(head + " 1 if late");
            faulty(head, head.length());
            faulty(head + " ", head.length() + 1);
            faulty(head + " if late", head.length() + 1);
            faulty(head + ";on", head.length());
            faulty(head + " 1 2", head.length() + 3);
            faulty(head + " late", head.length() + 1);
        }
        faulty("void if late", 5);
        faulty("void;on", 4);
        faulty("void age", 5);
        faulty("void [1]", 5);
        faulty("void 1 late", 7);
        faulty("strike", 6);
        faulty("strike clause", 7);
        faulty("strike 1 1", 9);
        faulty("strike 1;on", 8);
        faulty("strike 1 clause", 15);
        faulty("strike 1 clause;on", 15);
        faulty("strike 1 clause age", 16);
        faulty("strike 1 clause 1 1", 18);
        faulty("strike age clause 1", 7);
        faulty("if late", 0);
        faulty("clause 1", 0);
        faulty("not on", 0);
        faulty("(on)", 0);
        faulty("1", 0);
        for (String word : PARTS) {
            faulty(word, 0);
            faulty("on if " + word, 6 + word.length());
            faulty("on if (" + word + ")", 7 + word.length());
            fine("on if " + word + " = " + word);
            fine("most " + word);
        }
        for (String word : PLAINS) {
            faulty(word, 0);
            faulty("most " + word, 5);
            faulty("on if 1 = " + word, 10);
            faulty("on if " + word + " = 1", 7 + word.length());
            faulty("on if [" + word + "]", 7);
            fine("on if " + word);
            fine("on if not (" + word + ")");
        }
    }

    /** "SUM ("<" | ">" | "=") SUM": a SUM stands on both sides. */
    private static void bothSides() {
        for (String sign : new String[] {"<", ">", "="}) {
            fine("on if 1" + sign + "2");
            faulty("on if 1" + sign, 8);
            faulty("on if 1" + sign + " ", 9);
            faulty("on if 1" + sign + ";on", 8);
            faulty("on if 1" + sign + ")", 8);
            faulty("on if (1" + sign + ")", 9);
            faulty("on if 1" + sign + "or 1=1", 8);
            faulty("on if 1" + sign + sign + "2", 8);
            faulty("on if 1" + sign + "2" + sign + "3", 9);
            faulty("on if " + sign + "2", 6);
        }
        faulty("on if 1", 7);
        faulty("on if 1;on", 7);
        faulty("on if 1 2", 8);
    }

    /** A TEXT that ends too early: FAULT at "the end's: the TEXT's length", wherever it ends. */
    private static void textsThatEnd() {
        String[] tokens = {"most", "[", "age", "+", "1", "]", "*", "2", "if", "not", "(", "late", "or",
            "1", "<", "[", "2", "]", ")", "and", "wife", ";", "void", "3", ";", "strike", "1", "clause",
            "2"};
        Set<Integer> whole = Set.of(5, 7, 18, 20, 23, 28);
        StringBuilder text = new StringBuilder();
        for (int i = 0; i < tokens.length; i++) {
            text.append(tokens[i]);
            if (whole.contains(i)) {
                fine(text.toString());
                fine(text + "  ");
            } else {
                faulty(text.toString(), text.length());
                faulty(text + "  ", text.length() + 2);
            }
            text.append(' ');
        }
    }

    /** "NUMBERS to 100,000; of "strike" to 19, of its "clause" to 11, of "void" to 9". */
    private static void numbers() {
        String[] heads = {"most ", "strike 0 clause ", "void ", "on if 1 < ", "far [ 1 + "};
        String[] most = {"100000", "11", "9", "100000", "100000"};
        String[] more = {"100001", "12", "10", "100001", "100001"};
        String[] tails = {"", "", "", "", "]"};
        String[] wrapped = {"4294967296", "4294967297", "2147483648", "18446744073709551617",
            "65536000000", "999999", "1000000000000000000000000000000000000000000000001"};
        for (int i = 0; i < heads.length; i++) {
            fine(heads[i] + "0" + tails[i]);
            fine(heads[i] + most[i] + tails[i]);
            fine(heads[i] + "000000000000000000000" + most[i] + tails[i]);
            faulty(heads[i] + more[i] + tails[i], heads[i].length());
            faulty(heads[i] + "0000" + more[i] + tails[i], heads[i].length());
            for (String number : wrapped) {
                faulty(heads[i] + number + tails[i], heads[i].length());
            }
        }
        fine("strike 19 clause 0");
        fine("strike 00 clause 0");
        faulty("strike 20 clause 0", 7);
        for (String number : wrapped) {
            faulty("strike " + number + " clause 0", 7);
        }
        FirstPolls x = land();
        Check.fine(x, "most 100000;far 00;few 0099999");
        Check.due("most", x.rule(0, 0, 0, 0), 100_000);
        Check.due("far", x.rule(0, 0, 0, 1), 0);
        Check.due("few", x.rule(0, 0, 0, 2), 99_999);
    }

    /** "50 NUMBERS and words that are PARTS or PLAINS by themselves (FAULT at the 51st)". */
    private static void fiftyLeaves() {
        String fifty = "far " + "1+".repeat(49) + "1";
        fine(fifty);
        fine(fifty + ";on;strike 1 clause 1;void 3;again");
        faulty(fifty + "+1", fifty.length() + 1);
        faulty(fifty + "+ 1", fifty.length() + 2);
        faulty(fifty + "+age", fifty.length() + 1);
        faulty(fifty + " if late", fifty.length() + 4);
        faulty(fifty + " if not ( late )", fifty.length() + 10);
        faulty(fifty + " if 1=1", fifty.length() + 4);
        faulty(fifty + ";few 1", fifty.length() + 5);
        faulty(fifty + ";on if broken", fifty.length() + 7);
        faulty(fifty + "+[[7]]", fifty.length() + 3);
        for (String word : PLAINS) {
            String text = "on if " + (word + " or ").repeat(24) + "day=" + "1+".repeat(24) + "1";
            fine(text);
            faulty("off if late;" + text, 12 + text.length() - 1);
        }
        for (String word : PARTS) {
            String text = "far " + (word + "+").repeat(25) + "1" + "+2".repeat(24);
            fine(text);
            faulty(text + "+3", text.length() + 1);
            faulty(text + "+" + word, text.length() + 1);
        }
        FirstPolls x = land();
        for (int i = 0; i < 3; i++) {
            Check.faulty(x, fifty + "+1", fifty.length() + 1);
            Check.fine(x, fifty);
        }
        Check.due("each TEXT has its own fifty", x.rule(0, 0, 0, 1), 50);
        Check.fine(x, "strike 1 clause 1;void 1;void 2;void 3;void 4;" + fifty);
    }

    /** "8 brackets of both kinds within one another (FAULT at the 9th)". */
    private static void eightBrackets() {
        for (int round = 0; round <= 8; round++) {
            int square = 8 - round;
            String open = "(".repeat(round) + "[".repeat(square);
            String close = "]".repeat(square) + "=1" + ")".repeat(round);
            String text = "on if " + open + "1" + close;
            fine(text);
            fine(text + " and not " + text.substring(6) + ";off if " + text.substring(6));
            faulty("on if " + open + "[1", 14);
            faulty("on if 1=1 or " + "(".repeat(round) + "1=" + "[".repeat(square) + "[",
                    13 + 8 + 2);
        }
        faulty("on if " + "(".repeat(8) + "(", 14);
        faulty("far " + "[".repeat(8) + "[1]", 12);
        faulty("far " + "[".repeat(8) + "  [1]", 14);
        fine("far " + "[".repeat(8) + "1" + "]".repeat(8) + "+" + "[".repeat(8) + "1" + "]".repeat(8)
                + "*[[2]-[1]]");
        faulty("far [[1]", 8);
        faulty("far [1]]", 7);
        faulty("far []", 5);
        faulty("on if ()", 7);
        faulty("on if (1=1]", 10);
        faulty("far [1)", 6);
        FirstPolls x = land();
        Check.faulty(x, "far " + "[".repeat(9), 12);
        Check.fine(x, "far " + "[".repeat(8) + "6" + "]".repeat(8));
        Check.due("far", x.rule(0, 0, 0, 1), 6);
    }

    /** "TEXTS, 20 at most": each of 12 CLAUSES, all of them counting. */
    private static void twentyTexts() {
        FirstPolls x = land();
        x.image(0);
        String wide = "few " + "[1+1]*".repeat(19) + "1";
        for (int round = 0; round < 3; round++) {
            for (int i = 0; i < 60; i++) {
                Check.orders(x, 0, "far 1;".repeat(8) + wide + ";few 2;on on");
                Check.due("a TEXT that can't be", x.fault(), 8 * 6 + wide.length() + 10);
            }
            for (int i = 0; i < 20; i++) {
                String text = "far 100;".repeat(9) + "most " + (100 + i) + ";" + wide + ";far " + i;
                Check.due("order", Check.orders(x, i, text), i);
            }
            for (int i = 0; i < 20; i++) {
                Check.due("far of the last", x.rule(0, i, 0, 1), i);
                Check.due("most of the last but two", x.rule(0, i, 0, 0), 100 + i);
                Check.due("few of the last but one", x.rule(0, i, 0, 2), 1 << 19);
                Check.due("the first is in force", x.force(i, 0, i), 1);
                Check.due("the last is in force", x.force(i, 11, i), 1);
                Check.due("there is no thirteenth", x.force(i, 12, i), NONE);
            }
            Check.tape(x, "on");
            Check.refused(x, "the 21st", x.order(0), -5);
            x.end(0);
            Check.due("the fault of what was read", x.fault(), NONE);
            Check.accepted(x, "back", x.back(0), 0);
            Check.due("no texts", x.all(2), 0);
        }
    }

    /** "(blanks alone: FAULT at the end)", "FAULT of the latest order() that read a TEXT". */
    private static void faults() {
        FirstPolls x = land();
        for (int blanks = 0; blanks <= 400; blanks += 40) {
            Check.faulty(x, " ".repeat(blanks), blanks);
        }
        Check.fine(x, "on");
        Check.faulty(x, " on on", 4);
        Check.tape(x, "off off");
        Check.refused(x, "not read", x.order(400), -1);
        Check.due("fault stays", x.fault(), 4);
        x.row(0, 0);
        Check.due("fault stays behind a row", x.fault(), 4);
        for (int i = 1; i < 20; i++) {
            Check.fine(x, "on");
        }
        Check.due("none behind what could be", x.fault(), NONE);
        x.back(1);
        Check.tape(x, "off off");
        Check.refused(x, "not read", x.order(0), -5);
        Check.due("none, for it was not read", x.fault(), NONE);
        Check.due("the tape is there", x.all(8), 7);
    }

    public static void main(String[] args) {
        tape();
        theLongestText();
        tokens();
        bytesBehindTheEnd();
        clauses();
        heads();
        bothSides();
        textsThatEnd();
        numbers();
        fiftyLeaves();
        eightBrackets();
        twentyTexts();
        faults();
        Check.close("OrdersEdgesTest");
    }
}
