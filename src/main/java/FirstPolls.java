import java.util.Arrays;

/**
 * The first polls of a wide land: rolls, orders, booths, boxes, papers, ways and counts, all as
 * known on any day. The document tells each promise; words in capitals are its terms.
 */
public final class FirstPolls {
    public static final int NONE = -1;

    // What a call is REFUSED by.
    private static final int CANNOT_BE = -1;
    private static final int NOT_THERE = -2;
    private static final int NOT_BY_WHAT_STANDS = -3;
    private static final int TOLD_TWICE = -4;
    private static final int NO_ROOM = -5;
    private static final int UNREADABLE = -6;

    private static final int NOTHING = -2_000_000_000;
    private static final int SUM_MOST = 1_000_000_000;
    // No SUM that stands can be so low.
    private static final int BROKEN = -2_000_000_000;

    // How many there are at most.
    private static final int DAYS = 400;
    private static final int SEATS = 6;
    private static final int PLACES = 16;
    private static final int MILES = 100;
    private static final int NAMES = 200;
    private static final int HOUSES = 100;
    private static final int AGES = 121;
    private static final int KINDS = 4;
    private static final int PAIRS = 40;
    private static final int ALIKE = 5;
    private static final int TAPE = 400;
    private static final int FEED = 20;
    private static final int NAME_BYTES = 7;
    private static final int TEXTS = 20;
    private static final int TEXT_CLAUSES = 12;
    private static final int CLAUSES = TEXTS * TEXT_CLAUSES;
    private static final int LEAVES = 50;
    private static final int BRACKETS = 8;
    private static final int NUMBERS = 100_000;
    // 50 leaves, what joins them, a "not" for each three bytes left over, two stops a CLAUSE.
    private static final int TEXT_STEPS = 240;
    private static final int STEPS = TEXTS * TEXT_STEPS;
    private static final int WISHES = 7;
    private static final int SETS = 128;
    private static final int BOOTHS = 20;
    private static final int BOXES = 40;
    private static final int SEALS = 100_000;
    private static final int HANDED = 200;
    private static final int HANDS = 20;
    private static final int PAPERS = 120;
    private static final int PAPER_KINDS = 4;
    private static final int PAPER_MOST = 100_000;
    private static final int COUNTS = 200;
    private static final int COUNT_MOST = 10_000;
    private static final int SYMBOLS = 8;
    private static final int MARKS = 10;
    private static final int SHARED_SEATS = 20;
    private static final int MASKS = 255;
    private static final int PACES = 50;
    private static final int RIVERS = 9;
    private static final int DOORS = 60;
    private static final int DRAWN = 12;
    private static final int IMAGES = 2;

    // Columns of a PLACE.
    private static final int PLACE_SEAT = 0;
    private static final int PLACE_X = 1;
    private static final int PLACE_Y = 2;
    private static final int PLACE_WIDTH = 3;

    // Columns of a NAME, the first five as of() tells them.
    private static final int NAME_PLACE = 0;
    private static final int NAME_HOUSE = 1;
    private static final int NAME_AGE = 2;
    private static final int NAME_KIND = 3;
    private static final int NAME_LETTERS = 4;
    private static final int NAME_KNOWN = 5;
    private static final int NAME_OFF_DAY = 6;
    private static final int NAME_OFF_KNOWN = 7;
    private static final int NAME_TO = 8;
    private static final int NAME_TO_DAY = 9;
    private static final int NAME_TO_KNOWN = 10;
    private static final int NAME_WIDTH = 11;

    private static final int KIND_WIFE = 1;
    private static final int KIND_LATE = 2;
    private static final int KIND_WALKER = 3;

    // Columns of a BARRED pair.
    private static final int PAIR_LOW = 0;
    private static final int PAIR_HIGH = 1;
    private static final int PAIR_WIDTH = 2;

    // Columns of a TEXT.
    private static final int TEXT_FROM = 0;
    private static final int TEXT_FIRST = 1;
    private static final int TEXT_MANY = 2;
    private static final int TEXT_WIDTH = 3;

    // Columns of a CLAUSE: its head's word, its NUMBERS, where its SUM and its TEST begin.
    private static final int CLAUSE_HEAD = 0;
    private static final int CLAUSE_NUMBER = 1;
    private static final int CLAUSE_OTHER = 2;
    private static final int CLAUSE_SUM = 3;
    private static final int CLAUSE_TEST = 4;
    private static final int CLAUSE_WIDTH = 5;

    // Columns of a BOOTH: its PLACE, and what is kept of it when it is SEALED.
    private static final int BOOTH_PLACE = 0;
    private static final int BOOTH_SEALED = 1;
    private static final int BOOTH_SUM = 2;
    private static final int BOOTH_WEIGHED = 3;
    private static final int BOOTH_WIDTH = 4;

    // Columns of a BOX.
    private static final int BOX_BOOTH = 0;
    private static final int BOX_SEAL = 1;
    private static final int BOX_WIDTH = 2;

    // Columns of a HANDED.
    private static final int HANDED_BOX = 0;
    private static final int HANDED_HAND = 1;
    private static final int HANDED_DAY = 2;
    private static final int HANDED_SEAL = 3;
    private static final int HANDED_KNOWN = 4;
    private static final int HANDED_WIDTH = 5;

    // Columns of a telling of PAPERS.
    private static final int PAPER_BOOTH = 0;
    private static final int PAPER_WHAT = 1;
    private static final int PAPER_NUMBER = 2;
    private static final int PAPER_KNOWN = 3;
    private static final int PAPER_WIDTH = 4;

    private static final int PRINTED = 0;
    private static final int GIVEN = 1;
    private static final int SPOILT = 2;
    private static final int BACK = 3;

    // Columns of a telling of papers COUNTED.
    private static final int COUNT_BOX = 0;
    private static final int COUNT_SYMBOL = 1;
    private static final int COUNT_MARK = 2;
    private static final int COUNT_NUMBER = 3;
    private static final int COUNT_KNOWN = 4;
    private static final int COUNT_WIDTH = 5;

    // The words of the ORDERS, six signs each; a word's number is its place here.
    private static final String WORDS =
            "on    off   void  again most  far   few   strikeclauseif    or    and   not   wife  late  walkermoved brokenage   house place seat  day   names papersgiven put   spoiltlost  ";
    private static final int WORD_SIGNS = 6;
    private static final int WORD_COUNT = 29;
    private static final int W_ON = 0;
    private static final int W_OFF = 1;
    private static final int W_VOID = 2;
    private static final int W_AGAIN = 3;
    private static final int W_MOST = 4;
    private static final int W_FAR = 5;
    private static final int W_FEW = 6;
    private static final int W_STRIKE = 7;
    private static final int W_CLAUSE = 8;
    private static final int W_IF = 9;
    private static final int W_OR = 10;
    private static final int W_AND = 11;
    private static final int W_NOT = 12;
    private static final int W_WIFE = 13;
    private static final int W_LATE = 14;
    private static final int W_WALKER = 15;
    private static final int W_MOVED = 16;
    private static final int W_BROKEN = 17;
    private static final int W_AGE = 18;
    private static final int W_HOUSE = 19;
    private static final int W_PLACE = 20;
    private static final int W_SEAT = 21;
    private static final int W_DAY = 22;
    private static final int W_NAMES = 23;
    private static final int W_PAPERS = 24;
    private static final int W_GIVEN = 25;
    private static final int W_PUT = 26;
    private static final int W_SPOILT = 27;
    private static final int W_LOST = 28;

    // What else a TOKEN may be; a single other byte is itself behind T_SIGN.
    private static final int T_END = 40;
    private static final int T_NUMBER = 41;
    private static final int T_OTHER_WORD = 42;
    private static final int T_SIGN = 256;

    // Steps in which SUMS and TESTS are kept: what is done in the low four bits, with what above.
    private static final int DO_STOP = 0;
    private static final int DO_NUMBER = 1;
    private static final int DO_WORD = 2;
    private static final int DO_NOT = 3;
    private static final int DO_AND = 4;
    private static final int DO_OR = 5;
    private static final int DO_ADD = 6;
    private static final int DO_LESSEN = 7;
    private static final int DO_TIMES = 8;
    private static final int DO_THROUGH = 9;
    private static final int DO_BELOW = 10;
    private static final int DO_ABOVE = 11;
    private static final int DO_SAME = 12;
    private static final int DO_BITS = 4;
    private static final int DO_MASK = 15;

    private final Land land = new Land();
    // An IMAGE that was not kept yet is null.
    private final Land[] images = new Land[IMAGES];
    private final Reader reader = new Reader(land);
    private final View view = new View(land);
    private final Tally tally = new Tally(land, view);
    private final Wishes wishes = new Wishes(land);
    private final Siting siting = new Siting(land, view, wishes);
    private final Journey journey = new Journey(land, wishes);
    private int refusedBy = 0;

    public FirstPolls() {
    }

    // ---- PLACES and NAMES ----

    public int place(int seat, int x, int y) {
        if (!isBelow(seat, SEATS) || !isBelow(x, MILES) || !isBelow(y, MILES)) {
            return refuse(CANNOT_BE);
        }
        int place = land.places.add();
        if (place == NONE) {
            return refuse(NO_ROOM);
        }
        land.places.set(place, PLACE_SEAT, seat);
        land.places.set(place, PLACE_X, x);
        land.places.set(place, PLACE_Y, y);
        return accept(place);
    }

    public int name(int place, int house, int age, int kind, int letters, int known) {
        if (!canBeName(house, age, kind, letters) || !isDay(known)) {
            return refuse(CANNOT_BE);
        }
        if (!land.places.has(place)) {
            return refuse(NOT_THERE);
        }
        int name = addName(place, known, house, age, kind, letters);
        return name == NONE ? refuse(NO_ROOM) : accept(name);
    }

    public int row(int place, int known) {
        if (!isDay(known)) {
            return refuse(CANNOT_BE);
        }
        if (!land.places.has(place)) {
            return refuse(NOT_THERE);
        }
        int most = reader.bytes() / NAME_BYTES;
        if (!land.names.hasRoomFor(most)) {
            return refuse(NO_ROOM);
        }
        if (reader.bytes() == 0) {
            return refuse(UNREADABLE);
        }
        int became = 0;
        for (int i = 0; i < most; i++) {
            if (addTold(place, known, i * NAME_BYTES)) {
                became++;
            }
        }
        reader.keepFirst(0);
        return accept(became);
    }

    public int off(int name, int day, int known) {
        if (!isDay(day) || !isDay(known)) {
            return refuse(CANNOT_BE);
        }
        if (!land.names.has(name)) {
            return refuse(NOT_THERE);
        }
        if (land.names.get(name, NAME_OFF_DAY) != NONE) {
            return refuse(TOLD_TWICE);
        }
        land.names.set(name, NAME_OFF_DAY, day);
        land.names.set(name, NAME_OFF_KNOWN, known);
        return accept(0);
    }

    public int moved(int name, int place, int day, int known) {
        if (!isDay(day) || !isDay(known)) {
            return refuse(CANNOT_BE);
        }
        if (!land.names.has(name) || !land.places.has(place)) {
            return refuse(NOT_THERE);
        }
        if (land.names.get(name, NAME_PLACE) == place) {
            return refuse(NOT_BY_WHAT_STANDS);
        }
        if (land.names.get(name, NAME_TO_DAY) != NONE) {
            return refuse(TOLD_TWICE);
        }
        land.names.set(name, NAME_TO, place);
        land.names.set(name, NAME_TO_DAY, day);
        land.names.set(name, NAME_TO_KNOWN, known);
        return accept(0);
    }

    public int of(int name, int what) {
        return what <= NAME_LETTERS ? land.names.get(name, what) : NONE;
    }

    public int where(int name, int day, int known) {
        if (!isDay(day) || !isDay(known) || !land.names.has(name)) {
            return NONE;
        }
        view.look(day, known);
        return view.placeThen(name);
    }

    public int on(int name, int day, int known) {
        if (!isDay(day) || !isDay(known) || !land.names.has(name)) {
            return NONE;
        }
        view.look(day, known);
        return view.isOnRoll(name) ? 1 : 0;
    }

    public int roll(int place, int day, int known) {
        if (!isDay(day) || !isDay(known) || !land.places.has(place)) {
            return NONE;
        }
        view.lookAtRolls(day, known);
        return view.namesAt(place);
    }

    public int like(int a, int b) {
        if (a == b || !land.names.has(a) || !land.names.has(b)) {
            return NONE;
        }
        return land.likeness(a, b);
    }

    public int apart(int a, int b) {
        if (!land.names.has(a) || !land.names.has(b)) {
            return refuse(NOT_THERE);
        }
        if (a == b) {
            return refuse(NOT_BY_WHAT_STANDS);
        }
        int pair = land.pairs.add();
        if (pair == NONE) {
            return refuse(NO_ROOM);
        }
        land.pairs.set(pair, PAIR_LOW, Math.min(a, b));
        land.pairs.set(pair, PAIR_HIGH, Math.max(a, b));
        return accept(land.pairs.size());
    }

    public int twice(int day, int known, int i) {
        if (!isDay(day) || !isDay(known)) {
            return NONE;
        }
        view.lookAtRolls(day, known);
        return view.pairAt(i);
    }

    // ---- the TAPE and the ORDERS ----

    public int feed(int a, int b, int c, int d, int e) {
        if (!reader.hasRoom()) {
            return NONE;
        }
        reader.write(a);
        reader.write(b);
        reader.write(c);
        reader.write(d);
        reader.write(e);
        return reader.bytes();
    }

    public int end(int n) {
        return reader.keepFirst(n) ? n : NONE;
    }

    public int order(int from) {
        if (!isDay(from)) {
            return refuse(CANNOT_BE);
        }
        if (!land.texts.hasRoomFor(1)) {
            return refuse(NO_ROOM);
        }
        reader.open();
        boolean read = reader.readClauses();
        reader.close(read, from);
        return read ? accept(land.texts.size() - 1) : refuse(UNREADABLE);
    }

    public int fault() {
        return reader.faultAt();
    }

    public int force(int text, int clause, int day) {
        if (!isDay(day) || !land.texts.has(text)) {
            return NONE;
        }
        if (!isBelow(clause, land.texts.get(text, TEXT_MANY))) {
            return NONE;
        }
        view.look(day, 0);
        return view.isInForce(land.texts.get(text, TEXT_FIRST) + clause) ? 1 : 0;
    }

    public int rule(int place, int day, int known, int what) {
        if (!isDay(day) || !isDay(known)) {
            return NONE;
        }
        if (what == 2) {
            view.look(day, known);
            return view.fewest();
        }
        if (!isBelow(what, 2) || !land.places.has(place)) {
            return NONE;
        }
        view.lookAtRolls(day, known);
        return view.ruledAt(place, what == 0 ? W_MOST : W_FAR);
    }

    // ---- WISHES and BOOTHS on paper ----

    public int wish(int place) {
        if (!land.places.has(place)) {
            return refuse(NOT_THERE);
        }
        if (wishes.holds(place)) {
            return refuse(TOLD_TWICE);
        }
        return wishes.add(place) ? accept(wishes.size()) : refuse(NO_ROOM);
    }

    public int clear() {
        return wishes.drop();
    }

    public int booths(int day, int known) {
        if (!isDay(day) || !isDay(known) || !wishes.areAllThere()) {
            return NONE;
        }
        view.lookAtRolls(day, known);
        siting.leadAlone();
        return siting.choose();
    }

    public int led(int i) {
        return siting.latest(i);
    }

    public int judge(int bits, int day, int known) {
        if (!isDay(day) || !isDay(known) || !wishes.areAllThere()) {
            return NONE;
        }
        if (!isBelow(bits, 1 << wishes.size())) {
            return NONE;
        }
        view.lookAtRolls(day, known);
        siting.leadAlone();
        return siting.waysOf(bits);
    }

    // ---- BOOTHS, BOXES and HANDS ----

    public int booth(int place) {
        if (!land.places.has(place)) {
            return refuse(NOT_THERE);
        }
        int booth = land.booths.add();
        if (booth == NONE) {
            return refuse(NO_ROOM);
        }
        land.booths.set(booth, BOOTH_PLACE, place);
        return accept(booth);
    }

    public int box(int booth, int seal) {
        if (!isBelow(seal, SEALS)) {
            return refuse(CANNOT_BE);
        }
        if (!land.booths.has(booth)) {
            return refuse(NOT_THERE);
        }
        int box = land.boxes.add();
        if (box == NONE) {
            return refuse(NO_ROOM);
        }
        land.boxes.set(box, BOX_BOOTH, booth);
        land.boxes.set(box, BOX_SEAL, seal);
        return accept(box);
    }

    public int hand(int box, int hand, int day, int seal, int known) {
        if (!isBelow(hand, HANDS) || !isDay(day) || !isBelow(seal, SEALS) || !isDay(known)) {
            return refuse(CANNOT_BE);
        }
        if (!land.boxes.has(box)) {
            return refuse(NOT_THERE);
        }
        int handed = land.handed.add();
        if (handed == NONE) {
            return refuse(NO_ROOM);
        }
        land.handed.set(handed, HANDED_BOX, box);
        land.handed.set(handed, HANDED_HAND, hand);
        land.handed.set(handed, HANDED_DAY, day);
        land.handed.set(handed, HANDED_SEAL, seal);
        land.handed.set(handed, HANDED_KNOWN, known);
        return accept(land.handed.size());
    }

    public int held(int box, int day, int known) {
        if (!isDay(day) || !isDay(known) || !land.boxes.has(box)) {
            return NONE;
        }
        return land.handed.get(land.latestHanded(box, day, known), HANDED_HAND);
    }

    public int broken(int box, int known, int what) {
        if (!isDay(known) || !isBelow(what, 3) || !land.boxes.has(box)) {
            return NONE;
        }
        int handed = land.firstBroken(box, known);
        if (what == 1) {
            return land.handed.get(land.handedAhead(handed, known), HANDED_HAND);
        }
        return land.handed.get(handed, what == 0 ? HANDED_HAND : HANDED_DAY);
    }

    // ---- papers and counts ----

    public int paper(int booth, int what, int n, int known) {
        if (!isBelow(what, PAPER_KINDS) || !isBelow(n, PAPER_MOST + 1) || !isDay(known)) {
            return refuse(CANNOT_BE);
        }
        if (!land.booths.has(booth)) {
            return refuse(NOT_THERE);
        }
        int telling = land.papers.add();
        if (telling == NONE) {
            return refuse(NO_ROOM);
        }
        land.papers.set(telling, PAPER_BOOTH, booth);
        land.papers.set(telling, PAPER_WHAT, what);
        land.papers.set(telling, PAPER_NUMBER, n);
        land.papers.set(telling, PAPER_KNOWN, known);
        return accept(land.papers.size());
    }

    public int count(int box, int symbol, int mark, int n, int known) {
        if (!isBelow(symbol, SYMBOLS) || !isBelow(mark, MARKS)
                || !isBelow(n, COUNT_MOST + 1) || !isDay(known)) {
            return refuse(CANNOT_BE);
        }
        if (!land.boxes.has(box)) {
            return refuse(NOT_THERE);
        }
        int telling = land.counts.add();
        if (telling == NONE) {
            return refuse(NO_ROOM);
        }
        land.counts.set(telling, COUNT_BOX, box);
        land.counts.set(telling, COUNT_SYMBOL, symbol);
        land.counts.set(telling, COUNT_MARK, mark);
        land.counts.set(telling, COUNT_NUMBER, n);
        land.counts.set(telling, COUNT_KNOWN, known);
        return accept(telling);
    }

    public int tells(int booth, int day, int known, int what) {
        if (!isDay(day) || !isDay(known) || !isBelow(what, 9) || !land.booths.has(booth)) {
            return NOTHING;
        }
        view.lookAtRolls(day, known);
        tally.reckon();
        return tally.toldOf(booth, what);
    }

    public int keep(int seat, int symbol) {
        if (!isBelow(seat, SEATS) || !isBelow(symbol, SYMBOLS)) {
            return refuse(CANNOT_BE);
        }
        int bit = 1 << symbol;
        if ((land.standing[seat] & bit) != 0) {
            return refuse(TOLD_TWICE);
        }
        land.standing[seat] |= bit;
        return accept(0);
    }

    public int seat(int seat, int day, int known, int what) {
        if (!isDay(day) || !isDay(known) || !isBelow(what, 11) || !isBelow(seat, SEATS)) {
            return NOTHING;
        }
        view.lookAtRolls(day, known);
        tally.reckon();
        if (what < SYMBOLS) {
            return tally.sumOf(seat, what);
        }
        if (what == 8) {
            return tally.holder(seat);
        }
        if (what == 9) {
            return tally.margin(seat);
        }
        return tally.hangs(seat) ? 1 : 0;
    }

    public int hidden(int booth, int symbol, int day, int known, int what) {
        if (!isDay(day) || !isDay(known) || !isBelow(symbol, SYMBOLS)) {
            return NONE;
        }
        if (!isBelow(what, 2) || !land.booths.has(booth)) {
            return NONE;
        }
        view.lookAtRolls(day, known);
        tally.reckon();
        tally.join(tally.seatOf(booth), view.fewest());
        return what == 0 ? tally.joinedSum(booth, symbol) : tally.joinedBooths(booth);
    }

    public int shares(int n, int symbol, int day, int known) {
        if (!isDay(day) || !isDay(known) || !isBelow(symbol, SYMBOLS)) {
            return NONE;
        }
        if (n < 1 || n > SHARED_SEATS) {
            return NONE;
        }
        view.lookAtRolls(day, known);
        tally.reckon();
        return tally.shareOf(n, symbol);
    }

    // ---- the WAY ----

    public int terms(int pace, int rivers) {
        if (pace < 1 || pace > PACES || rivers < 0 || rivers > RIVERS) {
            return refuse(CANNOT_BE);
        }
        land.pace = pace;
        land.rivers = rivers;
        return accept(0);
    }

    public int span(int wish, int first, int last) {
        if (!isDay(first) || !isDay(last) || last < first) {
            return refuse(CANNOT_BE);
        }
        return wishes.limit(wish, first, last) ? accept(0) : refuse(NOT_THERE);
    }

    public int way(int place, int day) {
        if (!isDay(day) || !land.places.has(place) || !wishes.areAllThere()) {
            return NONE;
        }
        return journey.set(place, day);
    }

    public int leg(int i, int what) {
        return journey.latest(i, what);
    }

    // ---- DOORS ----

    public int doors(int all, int drawn, int had, int what) {
        if (all < 1 || all > DOORS || drawn < 1 || drawn > DRAWN || drawn > all) {
            return NONE;
        }
        if (had < 0 || had > drawn || !isBelow(what, 2)) {
            return NONE;
        }
        int edge = NONE;
        for (int m = 0; m <= all; m++) {
            if (couldBe(all, drawn, had, m)) {
                edge = m;
                if (what == 0) {
                    return edge;
                }
            }
        }
        return edge;
    }

    // ---- SEALED BOOTHS and IMAGES ----

    public int seal(int booth) {
        if (!land.booths.has(booth)) {
            return refuse(NOT_THERE);
        }
        land.booths.set(booth, BOOTH_SEALED, land.tellingsOf(booth));
        land.booths.set(booth, BOOTH_SUM, land.sumOfTellings(booth, false));
        land.booths.set(booth, BOOTH_WEIGHED, land.sumOfTellings(booth, true));
        return accept(land.booths.get(booth, BOOTH_SEALED));
    }

    public int alter(int telling, int mask) {
        if (mask < 1 || mask > MASKS) {
            return refuse(CANNOT_BE);
        }
        if (!land.counts.has(telling)) {
            return refuse(NOT_THERE);
        }
        int number = land.counts.get(telling, COUNT_NUMBER) ^ mask;
        land.counts.set(telling, COUNT_NUMBER, number);
        return accept(number);
    }

    public int found(int booth) {
        if (!land.booths.has(booth) || land.booths.get(booth, BOOTH_SEALED) == NONE) {
            return NOT_BY_WHAT_STANDS;
        }
        int off = land.sumOfTellings(booth, false) - land.booths.get(booth, BOOTH_SUM);
        int weighed = land.sumOfTellings(booth, true) - land.booths.get(booth, BOOTH_WEIGHED);
        if (off == 0 && weighed == 0) {
            return NONE;
        }
        if (off == 0 || land.tellingsOf(booth) > land.booths.get(booth, BOOTH_SEALED)) {
            return NOT_THERE;
        }
        int telling = weighed % off == 0 ? land.tellingAt(booth, weighed / off) : NONE;
        return telling == NONE ? NOT_THERE : telling;
    }

    public int image(int k) {
        if (!isBelow(k, IMAGES)) {
            return refuse(CANNOT_BE);
        }
        if (images[k] == null) {
            images[k] = new Land();
        }
        images[k].takeFrom(land);
        return accept(0);
    }

    public int back(int k) {
        if (!isBelow(k, IMAGES)) {
            return refuse(CANNOT_BE);
        }
        if (images[k] == null) {
            return refuse(NOT_THERE);
        }
        land.takeFrom(images[k]);
        return accept(0);
    }

    public int all(int what) {
        switch (what) {
            case 0:
                return land.places.size();
            case 1:
                return land.names.size();
            case 2:
                return land.texts.size();
            case 3:
                return land.booths.size();
            case 4:
                return land.boxes.size();
            case 5:
                return land.handed.size();
            case 6:
                return land.counts.size();
            case 7:
                return wishes.size();
            case 8:
                return reader.bytes();
            default:
                return NONE;
        }
    }

    public int status() {
        return refusedBy;
    }

    // ---- what the calls share ----

    private int refuse(int by) {
        refusedBy = by;
        return by;
    }

    // Every call that changes the land ends here, so what was reckoned of it is told to be old.
    private int accept(int answer) {
        refusedBy = 0;
        view.forget();
        return answer;
    }

    private boolean addTold(int place, int known, int at) {
        int house = reader.byteAt(at);
        int age = reader.byteAt(at + 1);
        int kind = reader.byteAt(at + 2);
        int letters = reader.lettersAt(at + 3);
        return canBeName(house, age, kind, letters)
                && addName(place, known, house, age, kind, letters) != NONE;
    }

    private int addName(int place, int known, int house, int age, int kind, int letters) {
        int name = land.names.add();
        if (name == NONE) {
            return NONE;
        }
        land.names.set(name, NAME_PLACE, place);
        land.names.set(name, NAME_HOUSE, house);
        land.names.set(name, NAME_AGE, age);
        land.names.set(name, NAME_KIND, kind);
        land.names.set(name, NAME_LETTERS, letters);
        land.names.set(name, NAME_KNOWN, known);
        return name;
    }

    private static boolean isBelow(int number, int bound) {
        return number >= 0 && number < bound;
    }

    private static boolean isDay(int day) {
        return isBelow(day, DAYS);
    }

    private static boolean isLetter(int sign) {
        return sign >= 'a' && sign <= 'z';
    }

    private static boolean isDigit(int sign) {
        return sign >= '0' && sign <= '9';
    }

    private static void unset(boolean[] flags) {
        for (int i = 0; i < flags.length; i++) {
            flags[i] = false;
        }
    }

    private static boolean canBeName(int house, int age, int kind, int letters) {
        if (!isBelow(house, HOUSES) || !isBelow(age, AGES) || !isBelow(kind, KINDS)) {
            return false;
        }
        for (int shift = 0; shift < 32; shift += 8) {
            if (!isLetter((letters >>> shift) & 255)) {
                return false;
            }
        }
        return true;
    }

    private static boolean couldBe(int all, int drawn, int had, int m) {
        long ways = choices(all, drawn);
        return 20 * waysToDraw(all, drawn, m, 0, had) >= ways
                && 20 * waysToDraw(all, drawn, m, had, drawn) >= ways;
    }

    // If m doors of all are so: in how many ways from least to most of those drawn are so.
    private static long waysToDraw(int all, int drawn, int m, int least, int most) {
        long ways = 0;
        for (int j = least; j <= most; j++) {
            ways += choices(m, j) * choices(all - m, drawn - j);
        }
        return ways;
    }

    private static long choices(int of, int picked) {
        if (picked < 0 || picked > of) {
            return 0;
        }
        long ways = 1;
        for (int i = 0; i < picked; i++) {
            ways = ways * (of - i) / (i + 1);
        }
        return ways;
    }

    /** Rows of numbers of one width, told one behind the other; none is read beyond its edges. */
    private static final class Table {
        private final int width;
        private final int most;
        private final int[] cells;
        private int size = 0;

        Table(int width, int most) {
            this.width = width;
            this.most = most;
            this.cells = new int[width * most];
        }

        int size() {
            return size;
        }

        boolean has(int at) {
            return at >= 0 && at < size;
        }

        boolean hasRoomFor(int more) {
            return size + more <= most;
        }

        int add() {
            if (size >= most) {
                return NONE;
            }
            for (int i = size * width; i < (size + 1) * width; i++) {
                cells[i] = NONE;
            }
            size++;
            return size - 1;
        }

        int get(int at, int column) {
            if (at < 0 || at >= size || column < 0 || column >= width) {
                return NONE;
            }
            return cells[at * width + column];
        }

        void set(int at, int column, int value) {
            if (at >= 0 && at < size && column >= 0 && column < width) {
                cells[at * width + column] = value;
            }
        }

        /** Adds a row whose first column is the value: its number, or NONE if there is no room. */
        int push(int value) {
            if (size >= most || width < 1) {
                return NONE;
            }
            cells[size * width] = value;
            size++;
            return size - 1;
        }

        void cutTo(int rows) {
            if (rows >= 0 && rows < size) {
                size = rows;
            }
        }

        void takeFrom(Table other) {
            if (other.cells.length == cells.length && other.width == width) {
                System.arraycopy(other.cells, 0, cells, 0, other.size * width);
                size = other.size;
            }
        }
    }

    /** All that an IMAGE keeps. */
    private static final class Land {
        final Table places = new Table(PLACE_WIDTH, PLACES);
        final Table names = new Table(NAME_WIDTH, NAMES);
        final Table pairs = new Table(PAIR_WIDTH, PAIRS);
        final Table texts = new Table(TEXT_WIDTH, TEXTS);
        final Table clauses = new Table(CLAUSE_WIDTH, CLAUSES);
        final Table steps = new Table(1, STEPS);
        final Table booths = new Table(BOOTH_WIDTH, BOOTHS);
        final Table boxes = new Table(BOX_WIDTH, BOXES);
        final Table handed = new Table(HANDED_WIDTH, HANDED);
        final Table papers = new Table(PAPER_WIDTH, PAPERS);
        final Table counts = new Table(COUNT_WIDTH, COUNTS);
        // Of each SEAT the SYMBOLS told to stand there, as bits; 0: it is not KEPT.
        final int[] standing = new int[SEATS];
        int pace = 20;
        int rivers = 0;

        void takeFrom(Land other) {
            places.takeFrom(other.places);
            names.takeFrom(other.names);
            pairs.takeFrom(other.pairs);
            texts.takeFrom(other.texts);
            clauses.takeFrom(other.clauses);
            steps.takeFrom(other.steps);
            booths.takeFrom(other.booths);
            boxes.takeFrom(other.boxes);
            handed.takeFrom(other.handed);
            papers.takeFrom(other.papers);
            counts.takeFrom(other.counts);
            System.arraycopy(other.standing, 0, standing, 0, SEATS);
            pace = other.pace;
            rivers = other.rivers;
        }

        int likeness(int a, int b) {
            int differing = names.get(a, NAME_LETTERS) ^ names.get(b, NAME_LETTERS);
            int alike = 0;
            for (int shift = 0; shift < 32; shift += 8) {
                if (((differing >>> shift) & 255) == 0) {
                    alike++;
                }
            }
            if (names.get(a, NAME_HOUSE) == names.get(b, NAME_HOUSE)) {
                alike++;
            }
            if (Math.abs(names.get(a, NAME_AGE) - names.get(b, NAME_AGE)) <= 2) {
                alike++;
            }
            return alike;
        }

        boolean areBarred(int low, int high) {
            for (int i = 0; i < pairs.size(); i++) {
                if (pairs.get(i, PAIR_LOW) == low && pairs.get(i, PAIR_HIGH) == high) {
                    return true;
                }
            }
            return false;
        }

        int seatOfPlace(int place) {
            return places.get(place, PLACE_SEAT);
        }

        int distance(int a, int b) {
            return Math.abs(places.get(a, PLACE_X) - places.get(b, PLACE_X))
                    + Math.abs(places.get(a, PLACE_Y) - places.get(b, PLACE_Y));
        }

        int latestHanded(int box, int day, int known) {
            int latest = NONE;
            for (int i = 0; i < handed.size(); i++) {
                if (isHandedOf(i, box, known) && handed.get(i, HANDED_DAY) <= day
                        && handed.get(i, HANDED_DAY) >= handed.get(latest, HANDED_DAY)) {
                    latest = i;
                }
            }
            return latest;
        }

        int firstBroken(int box, int known) {
            int first = NONE;
            for (int i = 0; i < handed.size(); i++) {
                if (isHandedOf(i, box, known) && hasOtherSeal(i) && (first == NONE
                        || handed.get(i, HANDED_DAY) < handed.get(first, HANDED_DAY))) {
                    first = i;
                }
            }
            return first;
        }

        // The one just ahead of it, by DAY and then as told, of those of its BOX that are known.
        int handedAhead(int it, int known) {
            int ahead = NONE;
            for (int i = 0; i < handed.size(); i++) {
                if (isHandedOf(i, handed.get(it, HANDED_BOX), known) && isAhead(i, it)
                        && (ahead == NONE || isAhead(ahead, i))) {
                    ahead = i;
                }
            }
            return ahead;
        }

        boolean hasOtherSeal(int it) {
            return handed.get(it, HANDED_SEAL) != boxes.get(handed.get(it, HANDED_BOX), BOX_SEAL);
        }

        private boolean isHandedOf(int it, int box, int known) {
            return handed.get(it, HANDED_BOX) == box && handed.get(it, HANDED_KNOWN) <= known;
        }

        private boolean isAhead(int it, int other) {
            int day = handed.get(it, HANDED_DAY);
            int otherDay = handed.get(other, HANDED_DAY);
            return day < otherDay || (day == otherDay && it < other);
        }

        int boothOfTelling(int telling) {
            return boxes.get(counts.get(telling, COUNT_BOX), BOX_BOOTH);
        }

        int tellingsOf(int booth) {
            int many = 0;
            for (int i = 0; i < counts.size(); i++) {
                if (boothOfTelling(i) == booth) {
                    many++;
                }
            }
            return many;
        }

        int sumOfTellings(int booth, boolean weighed) {
            int sum = 0;
            int at = 0;
            for (int i = 0; i < counts.size(); i++) {
                if (boothOfTelling(i) == booth) {
                    at++;
                    sum += counts.get(i, COUNT_NUMBER) * (weighed ? at : 1);
                }
            }
            return sum;
        }

        // A BOOTH's telling by its place there, from 1 on.
        int tellingAt(int booth, int place) {
            int at = 0;
            for (int i = 0; i < counts.size(); i++) {
                if (boothOfTelling(i) == booth) {
                    at++;
                    if (at == place) {
                        return i;
                    }
                }
            }
            return NONE;
        }
    }

    /** The TAPE, and how a TEXT of ORDERS is read from it. */
    private static final class Reader {
        // What is read, from what binds least to what binds most.
        private static final int ANY_OF = 0;
        private static final int ALL_OF = 1;
        private static final int PLAIN = 2;
        private static final int SUM = 3;
        private static final int TERM = 4;
        private static final int PART = 5;

        private final Land land;
        private final int[] tape = new int[TAPE];
        private int length = 0;
        private int fault = NONE;
        // The TOKENS of the TEXT that is read; behind the last of them is the end.
        private final int[] kinds = new int[TAPE];
        private final int[] numbers = new int[TAPE];
        private final int[] starts = new int[TAPE];
        private int tokens = 0;
        private int at = 0;
        private int leaves = 0;
        private int firstClause = 0;
        private int firstStep = 0;

        Reader(Land land) {
            this.land = land;
        }

        int bytes() {
            return length;
        }

        int faultAt() {
            return fault;
        }

        boolean hasRoom() {
            return length + FEED <= TAPE;
        }

        void write(int four) {
            for (int shift = 24; shift >= 0 && length < TAPE; shift -= 8) {
                tape[length] = (four >>> shift) & 255;
                length++;
            }
        }

        boolean keepFirst(int n) {
            if (n < 0 || n > length) {
                return false;
            }
            length = n;
            return true;
        }

        int byteAt(int place) {
            return place >= 0 && place < length ? tape[place] : NONE;
        }

        int lettersAt(int place) {
            int letters = 0;
            for (int i = 0; i < 4; i++) {
                letters = (letters << 8) | (byteAt(place + i) & 255);
            }
            return letters;
        }

        void open() {
            firstClause = land.clauses.size();
            firstStep = land.steps.size();
            at = 0;
            leaves = 0;
            splitTokens();
        }

        /** What was read becomes a TEXT, or is dropped again; the TAPE is empty then. */
        void close(boolean read, int from) {
            fault = read ? NONE : startHere();
            length = 0;
            if (!read) {
                land.clauses.cutTo(firstClause);
                land.steps.cutTo(firstStep);
                return;
            }
            int text = land.texts.add();
            land.texts.set(text, TEXT_FROM, from);
            land.texts.set(text, TEXT_FIRST, firstClause);
            land.texts.set(text, TEXT_MANY, land.clauses.size() - firstClause);
        }

        // ---- TOKENS ----

        private void splitTokens() {
            tokens = 0;
            int place = 0;
            while (place < length) {
                int stop = Math.max(runEnd(place), place + 1);
                if (tape[place] != ' ' && tokens < TAPE) {
                    starts[tokens] = place;
                    kinds[tokens] = kindOf(place, stop);
                    numbers[tokens] = numberOf(place, stop);
                    tokens++;
                }
                place = stop;
            }
        }

        private int runEnd(int place) {
            int stop = place + 1;
            if (isLetter(tape[place])) {
                while (stop < length && isLetter(tape[stop])) {
                    stop++;
                }
            } else if (isDigit(tape[place])) {
                while (stop < length && isDigit(tape[stop])) {
                    stop++;
                }
            }
            return stop;
        }

        private int kindOf(int place, int stop) {
            if (isDigit(tape[place])) {
                return T_NUMBER;
            }
            if (!isLetter(tape[place])) {
                return T_SIGN + tape[place];
            }
            for (int word = 0; word < WORD_COUNT; word++) {
                if (isWord(word, place, stop)) {
                    return word;
                }
            }
            return T_OTHER_WORD;
        }

        private boolean isWord(int word, int place, int stop) {
            if (stop - place > WORD_SIGNS) {
                return false;
            }
            for (int i = 0; i < WORD_SIGNS; i++) {
                int sign = place + i < stop ? tape[place + i] : ' ';
                if (WORDS.charAt(word * WORD_SIGNS + i) != sign) {
                    return false;
                }
            }
            return true;
        }

        // Cut just above the greatest NUMBER, so that a long row of digits is still too great.
        private int numberOf(int place, int stop) {
            int number = 0;
            for (int i = place; i < stop; i++) {
                number = Math.min(number * 10 + (tape[i] - '0'), NUMBERS + 1);
            }
            return number;
        }

        private boolean takes(int kind) {
            if (kindHere() != kind) {
                return false;
            }
            at++;
            return true;
        }

        private int kindHere() {
            return at >= 0 && at < tokens ? kinds[at] : T_END;
        }

        private int numberHere() {
            return at >= 0 && at < tokens ? numbers[at] : 0;
        }

        private int startHere() {
            return at >= 0 && at < tokens ? starts[at] : length;
        }

        // ---- CLAUSES ----

        boolean readClauses() {
            for (int i = 0; i < TEXT_CLAUSES; i++) {
                if (!readClause()) {
                    return false;
                }
                if (kindHere() == T_END) {
                    return true;
                }
                if (!takes(T_SIGN + ';')) {
                    return false;
                }
            }
            return false;
        }

        private boolean readClause() {
            int head = kindHere();
            if (head > W_STRIKE) {
                return false;
            }
            at++;
            int clause = land.clauses.add();
            land.clauses.set(clause, CLAUSE_HEAD, head);
            if (head == W_STRIKE) {
                return readNumber(clause, CLAUSE_NUMBER, TEXTS - 1) && takes(W_CLAUSE)
                        && readNumber(clause, CLAUSE_OTHER, TEXT_CLAUSES - 1);
            }
            if (head == W_VOID && !readNumber(clause, CLAUSE_NUMBER, MARKS - 1)) {
                return false;
            }
            boolean hasSum = head == W_MOST || head == W_FAR || head == W_FEW;
            if (hasSum && !readPhrase(clause, CLAUSE_SUM, SUM)) {
                return false;
            }
            return !takes(W_IF) || readPhrase(clause, CLAUSE_TEST, ANY_OF);
        }

        private boolean readNumber(int clause, int column, int most) {
            if (kindHere() != T_NUMBER || numberHere() > most) {
                return false;
            }
            land.clauses.set(clause, column, numberHere());
            at++;
            return true;
        }

        private boolean readPhrase(int clause, int column, int level) {
            land.clauses.set(clause, column, land.steps.size());
            if (!readLevel(level, 0)) {
                return false;
            }
            land.steps.push(DO_STOP);
            return true;
        }

        // ---- TESTS and SUMS: depth is how many brackets stand open ----

        private boolean readLevel(int level, int depth) {
            if (level == PLAIN) {
                return readPlain(depth);
            }
            if (level == PART) {
                return readPart(depth);
            }
            if (!readLevel(level + 1, depth)) {
                return false;
            }
            for (int i = 0; i < TAPE; i++) {
                int step = joinAt(level);
                if (step == NONE) {
                    return true;
                }
                at++;
                if (!readJoined(level, step, depth)) {
                    return false;
                }
            }
            return true;
        }

        private int joinAt(int level) {
            switch (kindHere()) {
                case W_OR:
                    return level == ANY_OF ? DO_OR : NONE;
                case W_AND:
                    return level == ALL_OF ? DO_AND : NONE;
                case T_SIGN + '+':
                    return level == SUM ? DO_ADD : NONE;
                case T_SIGN + '-':
                    return level == SUM ? DO_LESSEN : NONE;
                case T_SIGN + '*':
                    return level == TERM ? DO_TIMES : NONE;
                case T_SIGN + '/':
                    return level == TERM ? DO_THROUGH : NONE;
                default:
                    return NONE;
            }
        }

        // "or" and "and" stand ahead of what they join, for they may leap over it.
        private boolean readJoined(int level, int step, int depth) {
            boolean leaps = step == DO_OR || step == DO_AND;
            int leap = leaps ? land.steps.push(step) : NONE;
            if (!readLevel(level + 1, depth)) {
                return false;
            }
            if (leaps) {
                land.steps.set(leap, 0, step | (land.steps.size() << DO_BITS));
            } else {
                land.steps.push(step);
            }
            return true;
        }

        private boolean readPlain(int depth) {
            boolean turned = false;
            for (int i = 0; i < TAPE && takes(W_NOT); i++) {
                turned = !turned;
            }
            boolean read;
            if (kindHere() == T_SIGN + '(') {
                read = readBracket(ANY_OF, T_SIGN + ')', depth);
            } else if (kindHere() >= W_WIFE && kindHere() <= W_BROKEN) {
                read = readLeaf(DO_WORD, kindHere());
            } else {
                read = readCompared(depth);
            }
            if (read && turned) {
                land.steps.push(DO_NOT);
            }
            return read;
        }

        private boolean readCompared(int depth) {
            if (!readLevel(SUM, depth)) {
                return false;
            }
            int step = DO_SAME;
            if (kindHere() == T_SIGN + '<') {
                step = DO_BELOW;
            } else if (kindHere() == T_SIGN + '>') {
                step = DO_ABOVE;
            } else if (kindHere() != T_SIGN + '=') {
                return false;
            }
            at++;
            if (!readLevel(SUM, depth)) {
                return false;
            }
            land.steps.push(step);
            return true;
        }

        private boolean readPart(int depth) {
            if (kindHere() == T_SIGN + '[') {
                return readBracket(SUM, T_SIGN + ']', depth);
            }
            if (kindHere() == T_NUMBER) {
                return numberHere() <= NUMBERS && readLeaf(DO_NUMBER, numberHere());
            }
            return kindHere() >= W_AGE && kindHere() <= W_LOST && readLeaf(DO_WORD, kindHere());
        }

        private boolean readBracket(int level, int close, int depth) {
            if (depth >= BRACKETS) {
                return false;
            }
            at++;
            return readLevel(level, depth + 1) && takes(close);
        }

        private boolean readLeaf(int step, int with) {
            if (leaves >= LEAVES) {
                return false;
            }
            leaves++;
            land.steps.push(step | (with << DO_BITS));
            at++;
            return true;
        }
    }

    /** Answers SUMS and TESTS by what each word was told to be. */
    private static final class Asked {
        private final Table steps;
        private final int[] told = new int[WORD_COUNT];
        private final int[] stack = new int[LEAVES];

        Asked(Table steps) {
            this.steps = steps;
        }

        void forget() {
            Arrays.fill(told, 0);
        }

        void tell(int word, int value) {
            if (word >= 0 && word < WORD_COUNT) {
                told[word] = value;
            }
        }

        /** The SUM's number, or 1 or 0 for the TEST, that begins there; BROKEN if it is. */
        int answer(int first) {
            int at = first;
            int top = 0;
            for (int i = 0; i < STEPS; i++) {
                int step = steps.get(at, 0);
                if (step < 0 || (step & DO_MASK) == DO_STOP) {
                    return step == DO_STOP && top == 1 ? stack[0] : BROKEN;
                }
                at++;
                int with = step >> DO_BITS;
                switch (step & DO_MASK) {
                    case DO_NUMBER:
                    case DO_WORD:
                        if (top >= LEAVES) {
                            return BROKEN;
                        }
                        stack[top] = (step & DO_MASK) == DO_NUMBER ? with : toldOf(with);
                        top++;
                        break;
                    case DO_NOT:
                        if (top < 1) {
                            return BROKEN;
                        }
                        stack[top - 1] = 1 - stack[top - 1];
                        break;
                    case DO_AND:
                    case DO_OR:
                        if (top < 1) {
                            return BROKEN;
                        }
                        // What stands behind can't matter any more: the answer is there already.
                        if (stack[top - 1] == ((step & DO_MASK) == DO_OR ? 1 : 0)) {
                            at = with;
                        } else {
                            top--;
                        }
                        break;
                    default:
                        if (top < 2) {
                            return BROKEN;
                        }
                        top--;
                        stack[top - 1] = joined(step & DO_MASK, stack[top - 1], stack[top]);
                        if (stack[top - 1] == BROKEN) {
                            return BROKEN;
                        }
                }
            }
            return BROKEN;
        }

        private int toldOf(int word) {
            return word >= 0 && word < WORD_COUNT ? told[word] : 0;
        }

        private static int joined(int step, long a, long b) {
            long sum;
            switch (step) {
                case DO_ADD:
                    sum = a + b;
                    break;
                case DO_LESSEN:
                    sum = a - b;
                    break;
                case DO_TIMES:
                    sum = a * b;
                    break;
                case DO_THROUGH:
                    if (b == 0) {
                        return BROKEN;
                    }
                    sum = a / b;
                    break;
                case DO_BELOW:
                    return a < b ? 1 : 0;
                case DO_ABOVE:
                    return a > b ? 1 : 0;
                default:
                    return a == b ? 1 : 0;
            }
            return sum > SUM_MOST || sum < -SUM_MOST ? BROKEN : (int) sum;
        }
    }

    /** The land as known on a DAY: which CLAUSES are in force, who is ON, what is ruled. */
    private static final class View {
        private final Land land;
        private final Asked asked;
        private int day = 0;
        private int known = 0;
        private boolean looked = false;
        private boolean rollsCounted = false;
        private int looks = 0;
        private final boolean[] struck = new boolean[CLAUSES];
        private final boolean[] inForce = new boolean[CLAUSES];
        // The CLAUSES in force as told, so that not all are gone through for each NAME.
        private final int[] live = new int[CLAUSES];
        private int lives = 0;
        private final int[] placesThen = new int[NAMES];
        private final boolean[] onThen = new boolean[NAMES];
        private final int[] rolls = new int[PLACES];

        View(Land land) {
            this.land = land;
            this.asked = new Asked(land.steps);
        }

        void forget() {
            looked = false;
        }

        /** Which look this is: what was reckoned in another one is old. */
        int looks() {
            return looks;
        }

        int known() {
            return known;
        }

        void look(int onDay, int asKnown) {
            if (looked && day == onDay && known == asKnown) {
                return;
            }
            day = onDay;
            known = asKnown;
            looked = true;
            rollsCounted = false;
            looks++;
            findInForce();
        }

        void lookAtRolls(int onDay, int asKnown) {
            look(onDay, asKnown);
            if (rollsCounted) {
                return;
            }
            Arrays.fill(rolls, 0);
            int names = Math.min(land.names.size(), NAMES);
            for (int name = 0; name < names; name++) {
                int place = placeThen(name);
                placesThen[name] = place;
                onThen[name] = isOnRoll(name);
                if (onThen[name] && place >= 0 && place < PLACES) {
                    rolls[place]++;
                }
            }
            rollsCounted = true;
        }

        // ---- CLAUSES ----

        // From the TEXT told last to the first, for only a later one can strike.
        private void findInForce() {
            unset(struck);
            unset(inForce);
            for (int text = land.texts.size() - 1; text >= 0; text--) {
                if (land.texts.get(text, TEXT_FROM) <= day) {
                    putInForce(text);
                }
            }
            lives = 0;
            int clauses = Math.min(land.clauses.size(), CLAUSES);
            for (int clause = 0; clause < clauses; clause++) {
                if (inForce[clause]) {
                    live[lives] = clause;
                    lives++;
                }
            }
        }

        private void putInForce(int text) {
            int first = land.texts.get(text, TEXT_FIRST);
            int many = land.texts.get(text, TEXT_MANY);
            for (int clause = first; clause < first + many; clause++) {
                if (clause < 0 || clause >= CLAUSES || struck[clause]) {
                    continue;
                }
                inForce[clause] = true;
                if (land.clauses.get(clause, CLAUSE_HEAD) == W_STRIKE) {
                    strikeOut(clause, text);
                }
            }
        }

        private void strikeOut(int by, int text) {
            int other = land.clauses.get(by, CLAUSE_NUMBER);
            int which = land.clauses.get(by, CLAUSE_OTHER);
            if (other < text && which < land.texts.get(other, TEXT_MANY)) {
                int clause = land.texts.get(other, TEXT_FIRST) + which;
                if (clause >= 0 && clause < CLAUSES) {
                    struck[clause] = true;
                }
            }
        }

        boolean isInForce(int clause) {
            return clause >= 0 && clause < CLAUSES && inForce[clause];
        }

        int liveClauses() {
            return lives;
        }

        int liveClause(int i) {
            return i >= 0 && i < lives ? live[i] : NONE;
        }

        /** Whether a CLAUSE in force HOLDS for what was told last, but for its SUM. */
        boolean holds(int clause) {
            int test = land.clauses.get(clause, CLAUSE_TEST);
            return test == NONE || asked.answer(test) == 1;
        }

        private int ruled(int head, int without) {
            for (int i = lives - 1; i >= 0; i--) {
                if (land.clauses.get(live[i], CLAUSE_HEAD) == head && holds(live[i])) {
                    int sum = asked.answer(land.clauses.get(live[i], CLAUSE_SUM));
                    if (sum != BROKEN) {
                        return Math.max(sum, 0);
                    }
                }
            }
            return without;
        }

        /** MOST or FAR of a PLACE; the rolls are counted. */
        int ruledAt(int place, int head) {
            tellPlace(place);
            return ruled(head, head == W_MOST ? 1000 : 200);
        }

        int fewest() {
            asked.forget();
            asked.tell(W_DAY, day);
            return ruled(W_FEW, 0);
        }

        // ---- what the CLAUSES are asked of ----

        private void tellName(int name, int place) {
            int kind = land.names.get(name, NAME_KIND);
            asked.forget();
            asked.tell(W_DAY, day);
            asked.tell(W_AGE, land.names.get(name, NAME_AGE));
            asked.tell(W_HOUSE, land.names.get(name, NAME_HOUSE));
            asked.tell(W_WIFE, kind == KIND_WIFE ? 1 : 0);
            asked.tell(W_LATE, kind == KIND_LATE ? 1 : 0);
            asked.tell(W_WALKER, kind == KIND_WALKER ? 1 : 0);
            asked.tell(W_MOVED, hasCome(name, NAME_TO_DAY, NAME_TO_KNOWN) ? 1 : 0);
            asked.tell(W_PLACE, place);
            asked.tell(W_SEAT, land.seatOfPlace(place));
        }

        /** Asks of a PLACE from now on, or of a BOOTH there, the rest of which is told by word. */
        void tellPlace(int place) {
            asked.forget();
            asked.tell(W_DAY, day);
            asked.tell(W_PLACE, place);
            asked.tell(W_SEAT, land.seatOfPlace(place));
            asked.tell(W_NAMES, namesAt(place));
        }

        void tell(int word, int value) {
            asked.tell(word, value);
        }

        // ---- NAMES ----

        private boolean hasCome(int name, int dayColumn, int knownColumn) {
            int from = land.names.get(name, dayColumn);
            return from != NONE && from <= day && land.names.get(name, knownColumn) <= known;
        }

        int placeThen(int name) {
            if (land.names.get(name, NAME_KNOWN) > known) {
                return NONE;
            }
            boolean gone = hasCome(name, NAME_TO_DAY, NAME_TO_KNOWN);
            return land.names.get(name, gone ? NAME_TO : NAME_PLACE);
        }

        boolean isOnRoll(int name) {
            int place = placeThen(name);
            if (place == NONE || hasCome(name, NAME_OFF_DAY, NAME_OFF_KNOWN)) {
                return false;
            }
            tellName(name, place);
            boolean isOn = false;
            for (int i = 0; i < lives; i++) {
                int head = land.clauses.get(live[i], CLAUSE_HEAD);
                if (head == W_OFF && holds(live[i])) {
                    return false;
                }
                if (head == W_ON && !isOn) {
                    isOn = holds(live[i]);
                }
            }
            return isOn;
        }

        int namesAt(int place) {
            return place >= 0 && place < PLACES ? rolls[place] : 0;
        }

        /** The wanted pair that is TWICE; how many there are, if NONE is wanted. */
        int pairAt(int wanted) {
            int pairs = 0;
            int names = Math.min(land.names.size(), NAMES);
            for (int low = 0; low < names; low++) {
                for (int high = low + 1; onThen[low] && high < names; high++) {
                    if (onThen[high] && areTwice(low, high)) {
                        if (pairs == wanted) {
                            return low * NAMES + high;
                        }
                        pairs++;
                    }
                }
            }
            return wanted == NONE ? pairs : NONE;
        }

        private boolean areTwice(int low, int high) {
            return placesThen[low] != placesThen[high] && land.likeness(low, high) >= ALIKE
                    && !land.areBarred(low, high);
        }
    }

    /** What the BOOTHS and SEATS tell in the view's look. */
    private static final class Tally {
        private final Land land;
        private final View view;
        private int reckonedIn = 0;
        private final int[] figures = new int[BOOTHS * PAPER_KINDS];
        private final int[] put = new int[BOOTHS];
        private final boolean[] sealBroken = new boolean[BOOTHS];
        private final boolean[] again = new boolean[BOOTHS];
        private final int[] voidMarks = new int[BOOTHS];
        private final int[] valid = new int[BOOTHS * SYMBOLS];
        private final int[] seatSums = new int[SEATS * SYMBOLS];
        // Which tellings COUNTED stand; a later one of the same BOX, SYMBOL, MARK hides others.
        private final boolean[] stands = new boolean[COUNTS];
        private final int[] toldLast = new int[BOXES * SYMBOLS * MARKS];
        private final int[] groups = new int[BOOTHS];
        private int lastWhole = NONE;
        // By SYMBOLS, in what is being joined or over all SEATS.
        private final int[] sums = new int[SYMBOLS];

        Tally(Land land, View view) {
            this.land = land;
            this.view = view;
        }

        /** Reckons all BOOTHS as the view, with its rolls counted, looks at them. */
        void reckon() {
            if (reckonedIn == view.looks()) {
                return;
            }
            reckonedIn = view.looks();
            readPapers();
            readHanded();
            readCounts();
            for (int booth = 0; booth < boothsInAll(); booth++) {
                askOrders(booth);
            }
            addValid();
        }

        private int boothsInAll() {
            return Math.min(land.booths.size(), BOOTHS);
        }

        private static boolean isBooth(int booth) {
            return booth >= 0 && booth < BOOTHS;
        }

        private void readPapers() {
            Arrays.fill(figures, 0);
            for (int i = 0; i < land.papers.size(); i++) {
                int booth = land.papers.get(i, PAPER_BOOTH);
                int what = land.papers.get(i, PAPER_WHAT);
                if (land.papers.get(i, PAPER_KNOWN) <= view.known()
                        && isBooth(booth) && what >= 0 && what < PAPER_KINDS) {
                    figures[booth * PAPER_KINDS + what] = land.papers.get(i, PAPER_NUMBER);
                }
            }
        }

        private void readHanded() {
            unset(sealBroken);
            for (int i = 0; i < land.handed.size(); i++) {
                int booth = land.boxes.get(land.handed.get(i, HANDED_BOX), BOX_BOOTH);
                if (land.handed.get(i, HANDED_KNOWN) <= view.known() && isBooth(booth)
                        && land.hasOtherSeal(i)) {
                    sealBroken[booth] = true;
                }
            }
        }

        private void readCounts() {
            Arrays.fill(put, 0);
            unset(stands);
            int tellings = Math.min(land.counts.size(), COUNTS);
            for (int i = tellings - 1; i >= 0; i--) {
                int booth = land.boothOfTelling(i);
                if (land.counts.get(i, COUNT_KNOWN) <= view.known() && isBooth(booth)
                        && isToldLast(i)) {
                    stands[i] = true;
                    put[booth] += land.counts.get(i, COUNT_NUMBER);
                }
            }
        }

        // Called from the last telling to the first; a look's own number marks what it has seen.
        private boolean isToldLast(int telling) {
            int key = (land.counts.get(telling, COUNT_BOX) * SYMBOLS
                    + land.counts.get(telling, COUNT_SYMBOL)) * MARKS
                    + land.counts.get(telling, COUNT_MARK);
            if (key < 0 || key >= BOXES * SYMBOLS * MARKS || toldLast[key] == reckonedIn) {
                return false;
            }
            toldLast[key] = reckonedIn;
            return true;
        }

        private void askOrders(int booth) {
            if (!isBooth(booth)) {
                return;
            }
            view.tellPlace(land.booths.get(booth, BOOTH_PLACE));
            view.tell(W_PAPERS, figure(booth, PRINTED));
            view.tell(W_GIVEN, figure(booth, GIVEN));
            view.tell(W_PUT, put[booth]);
            view.tell(W_SPOILT, figure(booth, SPOILT));
            view.tell(W_LOST, lost(booth));
            view.tell(W_BROKEN, sealBroken[booth] ? 1 : 0);
            again[booth] = false;
            voidMarks[booth] = 0;
            for (int i = 0; i < view.liveClauses(); i++) {
                int clause = view.liveClause(i);
                int head = land.clauses.get(clause, CLAUSE_HEAD);
                if (head == W_AGAIN && !again[booth]) {
                    again[booth] = view.holds(clause);
                } else if (head == W_VOID && view.holds(clause)) {
                    voidMarks[booth] |= 1 << land.clauses.get(clause, CLAUSE_NUMBER);
                }
            }
        }

        private void addValid() {
            Arrays.fill(valid, 0);
            Arrays.fill(seatSums, 0);
            int tellings = Math.min(land.counts.size(), COUNTS);
            for (int i = 0; i < tellings; i++) {
                int booth = land.boothOfTelling(i);
                int symbol = land.counts.get(i, COUNT_SYMBOL);
                if (!stands[i] || !isBooth(booth) || symbol < 0 || symbol >= SYMBOLS) {
                    continue;
                }
                if ((voidMarks[booth] & (1 << land.counts.get(i, COUNT_MARK))) == 0) {
                    addTo(booth, symbol, land.counts.get(i, COUNT_NUMBER));
                }
            }
        }

        private void addTo(int booth, int symbol, int papers) {
            int seat = seatOf(booth);
            valid[booth * SYMBOLS + symbol] += papers;
            if (seat >= 0 && seat < SEATS) {
                seatSums[seat * SYMBOLS + symbol] += papers;
            }
        }

        // ---- a BOOTH ----

        private int figure(int booth, int what) {
            boolean is = isBooth(booth) && what >= 0 && what < PAPER_KINDS;
            return is ? figures[booth * PAPER_KINDS + what] : 0;
        }

        private int lost(int booth) {
            return figure(booth, GIVEN) - putIn(booth) - figure(booth, SPOILT);
        }

        private int putIn(int booth) {
            return isBooth(booth) ? put[booth] : 0;
        }

        private boolean isAgain(int booth) {
            return isBooth(booth) && again[booth];
        }

        private boolean agrees(int booth) {
            return figure(booth, PRINTED) == figure(booth, GIVEN) + figure(booth, BACK)
                    && lost(booth) == 0;
        }

        private int validOf(int booth, int symbol) {
            boolean is = isBooth(booth) && symbol >= 0 && symbol < SYMBOLS;
            return is ? valid[booth * SYMBOLS + symbol] : 0;
        }

        int toldOf(int booth, int what) {
            switch (what) {
                case 4:
                    return putIn(booth);
                case 5:
                    return lost(booth);
                case 6:
                    return agrees(booth) ? 1 : 0;
                case 7:
                    return isAgain(booth) ? 1 : 0;
                case 8:
                    int all = 0;
                    for (int symbol = 0; symbol < SYMBOLS; symbol++) {
                        all += validOf(booth, symbol);
                    }
                    return all;
                default:
                    return figure(booth, what);
            }
        }

        int seatOf(int booth) {
            return land.seatOfPlace(land.booths.get(booth, BOOTH_PLACE));
        }

        // ---- a SEAT ----

        int sumOf(int seat, int symbol) {
            boolean is = seat >= 0 && seat < SEATS && symbol >= 0 && symbol < SYMBOLS;
            return is ? seatSums[seat * SYMBOLS + symbol] : 0;
        }

        private boolean mayStand(int seat, int symbol) {
            if (seat < 0 || seat >= SEATS || land.standing[seat] == 0) {
                return true;
            }
            return (land.standing[seat] & (1 << symbol)) != 0;
        }

        int holder(int seat) {
            int holder = NONE;
            int most = 0;
            for (int symbol = 0; symbol < SYMBOLS; symbol++) {
                int sum = mayStand(seat, symbol) ? sumOf(seat, symbol) : NONE;
                if (sum > most) {
                    holder = symbol;
                    most = sum;
                } else if (sum == most) {
                    holder = NONE;
                }
            }
            return holder;
        }

        int margin(int seat) {
            int holder = holder(seat);
            if (holder == NONE) {
                return 0;
            }
            int next = 0;
            for (int symbol = 0; symbol < SYMBOLS; symbol++) {
                if (symbol != holder && mayStand(seat, symbol)) {
                    next = Math.max(next, sumOf(seat, symbol));
                }
            }
            return sumOf(seat, holder) - next;
        }

        boolean hangs(int seat) {
            boolean anyAgain = false;
            int placesSeen = 0;
            int names = 0;
            for (int booth = 0; booth < boothsInAll(); booth++) {
                if (seatOf(booth) != seat || !isAgain(booth)) {
                    continue;
                }
                anyAgain = true;
                int place = land.booths.get(booth, BOOTH_PLACE);
                if ((placesSeen & (1 << place)) == 0) {
                    placesSeen |= 1 << place;
                    names += view.namesAt(place);
                }
            }
            return anyAgain && names >= margin(seat);
        }

        // ---- BOOTHS that are joined ----

        /** Joins the BOOTHS of a SEAT; those not whole at the end have a number of their own. */
        void join(int seat, int few) {
            int group = 0;
            int together = 0;
            Arrays.fill(groups, NONE);
            Arrays.fill(sums, 0);
            for (int booth = 0; booth < boothsInAll(); booth++) {
                if (seatOf(booth) != seat) {
                    continue;
                }
                groups[booth] = group;
                together += putIn(booth);
                if (addSymbols(booth) >= 2 && together >= few) {
                    group++;
                    together = 0;
                    Arrays.fill(sums, 0);
                }
            }
            lastWhole = group - 1;
        }

        // How many SYMBOLS have VALID papers, with this BOOTH's, in what is being joined.
        private int addSymbols(int booth) {
            int symbols = 0;
            for (int symbol = 0; symbol < SYMBOLS; symbol++) {
                sums[symbol] += validOf(booth, symbol);
                if (sums[symbol] > 0) {
                    symbols++;
                }
            }
            return symbols;
        }

        private boolean areJoined(int a, int b) {
            if (!isBooth(a) || !isBooth(b) || groups[a] == NONE || groups[b] == NONE) {
                return false;
            }
            int last = Math.max(lastWhole, 0);
            return Math.min(groups[a], last) == Math.min(groups[b], last);
        }

        int joinedSum(int booth, int symbol) {
            int sum = 0;
            for (int other = 0; other < boothsInAll(); other++) {
                if (areJoined(booth, other)) {
                    sum += validOf(other, symbol);
                }
            }
            return sum;
        }

        int joinedBooths(int booth) {
            int many = 0;
            for (int other = 0; other < boothsInAll(); other++) {
                if (areJoined(booth, other)) {
                    many++;
                }
            }
            return many;
        }

        // ---- SHARES ----

        int shareOf(int seats, int symbol) {
            int all = sumByAllSeats();
            if (all <= 0 || symbol < 0 || symbol >= SYMBOLS) {
                return NONE;
            }
            int left = seats;
            int ahead = 0;
            int rest = seats * sums[symbol] % all;
            for (int other = 0; other < SYMBOLS; other++) {
                int otherRest = seats * sums[other] % all;
                left -= seats * sums[other] / all;
                if (otherRest > rest || (otherRest == rest && other < symbol)) {
                    ahead++;
                }
            }
            return seats * sums[symbol] / all + (ahead < left ? 1 : 0);
        }

        private int sumByAllSeats() {
            int all = 0;
            for (int symbol = 0; symbol < SYMBOLS; symbol++) {
                sums[symbol] = 0;
                for (int seat = 0; seat < SEATS; seat++) {
                    sums[symbol] += sumOf(seat, symbol);
                }
                all += sums[symbol];
            }
            return all;
        }
    }

    /** The WISHED PLACES with their SPANS. */
    private static final class Wishes {
        private final Land land;
        private final int[] wished = new int[WISHES];
        private final int[] firsts = new int[WISHES];
        private final int[] lasts = new int[WISHES];
        private int size = 0;

        Wishes(Land land) {
            this.land = land;
        }

        int size() {
            return size;
        }

        boolean holds(int place) {
            for (int i = 0; i < size; i++) {
                if (wished[i] == place) {
                    return true;
                }
            }
            return false;
        }

        boolean add(int place) {
            if (size >= WISHES) {
                return false;
            }
            wished[size] = place;
            firsts[size] = 0;
            lasts[size] = DAYS - 1;
            size++;
            return true;
        }

        int drop() {
            int were = size;
            size = 0;
            return were;
        }

        boolean limit(int wish, int first, int last) {
            if (wish < 0 || wish >= size) {
                return false;
            }
            firsts[wish] = first;
            lasts[wish] = last;
            return true;
        }

        int at(int wish) {
            return wish >= 0 && wish < size ? wished[wish] : NONE;
        }

        int first(int wish) {
            return wish >= 0 && wish < size ? firsts[wish] : 0;
        }

        int last(int wish) {
            return wish >= 0 && wish < size ? lasts[wish] : NONE;
        }

        // A WISH outlives its PLACE when an IMAGE is gone back to.
        boolean areAllThere() {
            for (int i = 0; i < size; i++) {
                if (!land.places.has(wished[i])) {
                    return false;
                }
            }
            return true;
        }
    }

    /**
     * BOOTHS on paper. A sum of ways, the BOOTHS' bits and the row of who is led where are one
     * number (the row's digits by sevens, the first WISH highest), so that the least number is
     * the least sum, then the lowest bits, then the first row; such numbers of parts add up.
     */
    private static final class Siting {
        private static final int[] DIGITS = {1, 7, 49, 343, 2401, 16807, 117649};
        private static final long ROWS = 823_543;
        private static final long MILE = SETS * ROWS;
        private static final long CANNOT = 1_000_000_000_000_000L;
        private static final int BOUNDS = WISHES + 1;

        private final Land land;
        private final View view;
        private final Wishes wishes;
        // By BOOTH and set of WISHES: all of these led to that one.
        private final long[] alone = new long[WISHES * SETS];
        // By how many BOOTHS, a bound that they are below, and set of WISHES: the least of these.
        private final long[] least = new long[BOUNDS * BOUNDS * SETS];
        // By set of WISHES: the least with such of the judged BOOTHS as were let in.
        private final long[] judged = new long[SETS];
        private final int[] latestRow = new int[WISHES];
        private int latestSize = 0;
        private int latestWays = NONE;
        // By set of WISHES: how many NAMES are ON there.
        private final int[] names = new int[SETS];
        private final int[] fars = new int[WISHES];
        // By WISH: what it adds if it is led to the BOOTH that is reckoned.
        private final long[] leads = new long[WISHES];

        Siting(Land land, View view, Wishes wishes) {
            this.land = land;
            this.view = view;
            this.wishes = wishes;
        }

        /** The best set of BOOTHS as bits, kept as the latest; NONE, and the latest stays. */
        int choose() {
            if (manyWishes() == 0) {
                return keepLatest(0);
            }
            for (int many = 1; many <= manyWishes(); many++) {
                long best = leastOfAll(many);
                if (best < CANNOT) {
                    return keepLatest(best);
                }
                fill(many);
            }
            return NONE;
        }

        /** The least sum of ways with just these BOOTHS, or NONE. */
        int waysOf(int bits) {
            Arrays.fill(judged, CANNOT);
            judged[0] = 0;
            for (int booth = 0; booth < manyWishes(); booth++) {
                if ((bits & (1 << booth)) != 0) {
                    letIn(booth);
                }
            }
            long number = judged[allWishes()];
            return number < CANNOT ? (int) (number / MILE) : NONE;
        }

        int latest(int wish) {
            if (wish == NONE) {
                return latestWays;
            }
            return wish >= 0 && wish < latestSize ? latestRow[wish] : NONE;
        }

        private int keepLatest(long number) {
            latestSize = manyWishes();
            latestWays = (int) (number / MILE);
            for (int wish = 0; wish < latestSize; wish++) {
                latestRow[wish] = (int) (number / digitOf(wish) % WISHES);
            }
            return (int) (number / ROWS % SETS);
        }

        private int manyWishes() {
            return Math.min(wishes.size(), WISHES);
        }

        private int allWishes() {
            return (1 << manyWishes()) - 1;
        }

        private int digitOf(int wish) {
            int at = manyWishes() - 1 - wish;
            return at >= 0 && at < DIGITS.length ? DIGITS[at] : 1;
        }

        // ---- what each BOOTH by itself can have, reckoned ahead of choose() and waysOf() ----

        void leadAlone() {
            for (int wish = 0; wish < manyWishes(); wish++) {
                fars[wish] = view.ruledAt(wishes.at(wish), W_FAR);
            }
            int all = allWishes();
            for (int set = 1; set <= all; set++) {
                int wish = Integer.numberOfTrailingZeros(set);
                names[set] = names[set & (set - 1)] + view.namesAt(wishes.at(wish));
            }
            for (int booth = 0; booth < manyWishes(); booth++) {
                for (int wish = 0; wish < manyWishes(); wish++) {
                    leads[wish] = leadOne(wish, booth);
                }
                leadAll(booth, view.ruledAt(wishes.at(booth), W_MOST));
            }
        }

        private long leadOne(int wish, int booth) {
            int way = land.distance(wishes.at(wish), wishes.at(booth));
            return way > fars[wish] ? CANNOT : way * MILE + booth * digitOf(wish);
        }

        // Each set by what the set without its lowest WISH has.
        private void leadAll(int booth, int most) {
            int all = allWishes();
            alone[booth * SETS] = ROWS << booth;
            for (int set = 1; set <= all; set++) {
                long rest = alone[booth * SETS + (set & (set - 1))];
                long number = rest + leads[Integer.numberOfTrailingZeros(set)];
                alone[booth * SETS + set] = names[set] > most ? CANNOT : Math.min(number, CANNOT);
            }
        }

        // ---- what some of them together can have ----

        private long leastOfAll(int many) {
            long best = CANNOT;
            for (int highest = many - 1; highest < manyWishes(); highest++) {
                best = Math.min(best, leastBy(many, highest, allWishes()));
            }
            return best;
        }

        private void fill(int many) {
            int all = allWishes();
            for (int bound = 0; bound < manyWishes(); bound++) {
                for (int set = 0; set <= all; set++) {
                    least[placeOf(many, bound, set)] = leastBelow(many, bound, set);
                }
            }
        }

        private static int placeOf(int many, int bound, int set) {
            return (many * BOUNDS + bound) * SETS + set;
        }

        // By what stands filled for the bound just below.
        private long leastBelow(int many, int bound, int set) {
            if (bound < many) {
                return CANNOT;
            }
            return Math.min(least[placeOf(many, bound - 1, set)], leastBy(many, bound - 1, set));
        }

        // The highest BOOTH has a part of the set, and one BOOTH fewer, below it, the others.
        private long leastBy(int many, int highest, int set) {
            if (many == 1) {
                return set == 0 ? CANNOT : alone[highest * SETS + set];
            }
            long best = CANNOT;
            int others = placeOf(many - 1, highest, 0);
            int part = set;
            while (part > 0) {
                long here = alone[highest * SETS + part];
                if (here < best && here + least[others + (set ^ part)] < best) {
                    best = here + least[others + (set ^ part)];
                }
                part = (part - 1) & set;
            }
            return best;
        }

        // From the greatest set on, for those within a set must still be without the BOOTH.
        private void letIn(int booth) {
            for (int set = allWishes(); set > 0; set--) {
                long best = judged[set];
                int part = set;
                while (part > 0) {
                    long here = alone[booth * SETS + part];
                    if (here < best && here + judged[set ^ part] < best) {
                        best = here + judged[set ^ part];
                    }
                    part = (part - 1) & set;
                }
                judged[set] = best;
            }
        }
    }

    /** An officer's BEST WAY through the WISHES. */
    private static final class Journey {
        private static final int FROM = WISHES;
        private static final int STOPS = WISHES + 1;

        private final Land land;
        private final Wishes wishes;
        // By a stop (a WISH, or FROM) and a WISH: how many DAYS the way takes.
        private final int[] ways = new int[STOPS * WISHES];
        // By set of WISHES been to and the last of them: the earliest DAY of its poll so far.
        private final int[] earliest = new int[SETS * WISHES];
        private final int[] going = new int[WISHES];
        private final int[] polls = new int[WISHES];
        private final int[] bestGoing = new int[WISHES];
        private final int[] bestPolls = new int[WISHES];
        private int bestLegs = 0;
        private int bestDay = DAYS;

        Journey(Land land, Wishes wishes) {
            this.land = land;
            this.wishes = wishes;
        }

        /** Finds the BEST WAY and keeps it as the latest: how many PLACES. */
        int set(int place, int day) {
            for (int wish = 0; wish < wishes.size(); wish++) {
                for (int stop = 0; stop < wishes.size(); stop++) {
                    ways[stop * WISHES + wish] = daysBetween(wishes.at(stop), wishes.at(wish));
                }
                ways[FROM * WISHES + wish] = daysBetween(place, wishes.at(wish));
            }
            bestLegs = 0;
            bestDay = DAYS;
            Arrays.fill(earliest, DAYS);
            goOn(0, FROM, day, 0);
            return bestLegs;
        }

        int latest(int leg, int what) {
            if (leg < 0 || leg >= bestLegs || what < 0 || what > 1) {
                return NONE;
            }
            return what == 0 ? bestGoing[leg] : bestPolls[leg];
        }

        private int daysBetween(int a, int b) {
            int pace = Math.max(land.pace, 1);
            int days = (land.distance(a, b) + pace - 1) / pace;
            return land.seatOfPlace(a) == land.seatOfPlace(b) ? days : days + land.rivers;
        }

        // Ways come in the order of their rows, so of alike ones the one kept is the first; one
        // that is not earlier than another with the same WISHES behind it is none to go on with.
        private void goOn(int legs, int stop, int day, int been) {
            if (legs >= WISHES) {
                return;
            }
            for (int wish = 0; wish < wishes.size(); wish++) {
                int poll = Math.max(day + ways[stop * WISHES + wish], wishes.first(wish));
                int all = been | (1 << wish);
                if (all != been && poll <= wishes.last(wish) && poll < earliest[all * WISHES + wish]) {
                    earliest[all * WISHES + wish] = poll;
                    going[legs] = wish;
                    polls[legs] = poll;
                    keepIfBetter(legs + 1, poll);
                    goOn(legs + 1, wish, poll + 1, all);
                }
            }
        }

        private void keepIfBetter(int legs, int day) {
            if (legs > bestLegs || (legs == bestLegs && day < bestDay)) {
                bestLegs = legs;
                bestDay = day;
                System.arraycopy(going, 0, bestGoing, 0, legs);
                System.arraycopy(polls, 0, bestPolls, 0, legs);
            }
        }
    }
}
