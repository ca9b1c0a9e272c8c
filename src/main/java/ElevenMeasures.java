/**
 * A room of cards, each a body told by lengths, filed by thirds into drawers. What each call
 * answers is told by the document's promises; README.md says how to use the class.
 *
 * All rows are made in constructors and used again, so that no call makes an object.
 */
public final class ElevenMeasures {
    public static final int BAD = -1, STATE = -2, FULL = -3, NONE = -4;

    private static final int LAST_DAY = 9999;
    private static final int MEASURES = 4;
    private static final int LONGEST = 999;
    private static final int HANDS = 6;
    private static final int CARDS = 24;
    private static final int DRAWERS = 27;
    private static final int FINGERS = 10;
    private static final int HOLDS = 12;
    private static final int SHEETS = 4;

    private static final int PLAIN = 0, YOUNG = 1, OTHER = 2;

    /** What can hold on a day, numbered as rule() asks it; spread, grow, edges: of the first. */
    private static final int FIRST_EDGE = 0, SECOND_EDGE = 4, SPREAD = 8, GROW = 14, KEEP = 18,
            MORE = 19, RULES = 20;

    /** What the machine finds in a sheet. */
    private static final int NO_FAULT = 0, IS_NULL = 1, NO_INDEX = 2, NO_CAST = 3, NO_SIZE = 4;

    private final Tape tape;
    private final Rules rules;
    private final Reader reader;
    private final Now now;
    private final Cabinet cabinet;
    private final Telling telling;
    private final Looking looking;
    private final Men men;
    private final Edges edges;
    private final Sheet[] sheets;
    /** The measures of the cards that one call brings. */
    private final int[] brought;
    private final int[] heldBy;
    private final int[] heldOn;
    private final int[] heldHand;
    private final boolean[] heldWrong;
    private int holds;
    private int latestTorn;

    public ElevenMeasures() {
        tape = new Tape();
        rules = new Rules();
        reader = new Reader(tape);
        now = new Now(rules);
        cabinet = new Cabinet(now);
        telling = new Telling();
        looking = new Looking();
        men = new Men(cabinet);
        edges = new Edges(cabinet);
        sheets = new Sheet[SHEETS];
        for (int k = 0; k < SHEETS; k++) {
            sheets[k] = new Sheet();
        }
        brought = new int[CARDS * MEASURES];
        heldBy = new int[HOLDS];
        heldOn = new int[HOLDS];
        heldHand = new int[HOLDS];
        heldWrong = new boolean[HOLDS];
    }

    public int day(int d) {
        if (!isDay(d) || d < now.date) {
            return BAD;
        }
        int was = now.date;
        now.date = d;
        now.refresh();
        return was;
    }

    // ---- rules

    public int feed(long v) {
        return tape.add(v) ? tape.length : FULL;
    }

    public int end(int n) {
        if (n < 0 || n > tape.length) {
            return BAD;
        }
        int was = tape.length;
        tape.length = n;
        return was;
    }

    public int text() {
        boolean isWhole = reader.readText();
        tape.length = 0;
        if (!isWhole) {
            return -10 - reader.place;
        }
        rules.become(reader.draft);
        now.refresh();
        return rules.lines;
    }

    public int fault() {
        return reader.found;
    }

    public int rule(int rule, int day) {
        if (rule < 0 || rule >= RULES || !isDay(day)) {
            return BAD;
        }
        return rules.value(rule, day);
    }

    // ---- cards

    public int card(int hand, int kind, int m0, int m1, int m2, int m3, int prints) {
        boolean areMeasures = isTold(m0) && isTold(m1) && isTold(m2) && isTold(m3);
        boolean isKind = kind >= PLAIN && kind <= OTHER;
        if (!isHand(hand) || !isKind || !areMeasures || prints < 0 || prints >= 1 << FINGERS) {
            return BAD;
        }
        brought[0] = m0;
        brought[1] = m1;
        brought[2] = m2;
        brought[3] = m3;
        return cabinet.add(hand, kind, prints, brought, 0);
    }

    public int of(int c, int what) {
        if (!cabinet.has(c) || what < 0 || what > 13) {
            return BAD;
        }
        Card card = cabinet.cards[c];
        switch (what) {
            case 0: return card.hand;
            case 1: return card.kind;
            case 2: case 3: case 4: case 5: return card.measures[what - 2];
            case 6: return card.prints;
            case 7: return card.came;
            case 8: return card.filed;
            case 9: return now.drawerBy(card.measures);
            case 10: return bit(card.isOut());
            case 11: return bit(card.isDue(now));
            case 12: return card.spread(now);
            default: return card.anews;
        }
    }

    public int anew(int c, int m, int v) {
        if (!cabinet.has(c) || !isMeasure(m) || !isTold(v)) {
            return BAD;
        }
        return cabinet.tellAnew(c, m, v);
    }

    public int known(int c, int m, int day) {
        if (!cabinet.has(c) || !isMeasure(m) || !isDay(day)) {
            return BAD;
        }
        return cabinet.knownOn(c, m, day);
    }

    public int file(int c) {
        if (!cabinet.has(c)) {
            return BAD;
        }
        Card card = cabinet.cards[c];
        if (card.isOut()) {
            return STATE;
        }
        int was = card.filed;
        card.filed = now.drawerBy(card.measures);
        return was;
    }

    public int out(int c) {
        if (!cabinet.has(c)) {
            return BAD;
        }
        Card card = cabinet.cards[c];
        if (card.isOut() || !card.isDue(now)) {
            return STATE;
        }
        card.filed = NONE;
        return 1;
    }

    public int drawer(int d, int what) {
        if (d < 0 || d >= DRAWERS || what < 0 || what > 2) {
            return BAD;
        }
        int bits = cabinet.filedIn(1 << d);
        switch (what) {
            case 0: return Integer.bitCount(bits);
            case 1: return bits;
            default: return cabinet.elsewhere(bits);
        }
    }

    // ---- looking

    public int tell(int hand, int m0, int m1, int m2, int m3) {
        if (!isHand(hand) || !isTold(m0) || !isTold(m1) || !isTold(m2) || !isTold(m3)) {
            return BAD;
        }
        telling.isThere = true;
        telling.hand = hand;
        telling.measures[0] = m0;
        telling.measures[1] = m1;
        telling.measures[2] = m2;
        telling.measures[3] = m3;
        return now.drawerBy(telling.measures);
    }

    public long chance(int d, int what) {
        if (d < 0 || d >= DRAWERS || what < 0 || what > 1) {
            return BAD;
        }
        if (!telling.isThere) {
            return STATE;
        }
        looking.weigh(telling, now);
        return lowest(looking.weights[d], looking.whole, what);
    }

    public int look(int p, int what) {
        boolean isListed = what >= 10 && what < 10 + DRAWERS;
        if (!isShare(p) || !isListed && (what < 0 || what > 2)) {
            return BAD;
        }
        if (!telling.isThere) {
            return STATE;
        }
        looking.weigh(telling, now);
        looking.take(p);
        if (isListed) {
            return what - 10 < looking.taken ? looking.order[what - 10] : NONE;
        }
        switch (what) {
            case 0: return looking.taken;
            case 1: return looking.bits;
            default: return Integer.bitCount(cabinet.filedIn(looking.bits));
        }
    }

    public int match(int what) {
        boolean isListed = what >= 10 && what < 10 + CARDS;
        boolean isMiss = what >= 50 && cabinet.has(what - 50);
        if (!isListed && !isMiss && what != 0 && what != 1) {
            return BAD;
        }
        if (!telling.isThere) {
            return STATE;
        }
        telling.findMatches(cabinet);
        if (isListed) {
            return what - 10 < telling.matches ? telling.order[what - 10] : NONE;
        }
        if (isMiss) {
            return telling.misses[what - 50];
        }
        return what == 0 ? telling.matches : telling.bits;
    }

    public long byChance(int what) {
        if (what < 0 || what > 1) {
            return BAD;
        }
        if (!telling.isThere) {
            return STATE;
        }
        int kept = cabinet.kept();
        if (kept == 0) {
            return NONE;
        }
        long over = kept;
        long under = 1;
        for (int m = 0; m < MEASURES; m++) {
            if (telling.measures[m] > 0) {
                over *= telling.near(m, cabinet);
                under *= kept;
            }
        }
        return lowest(over, under, what);
    }

    public int grown(int c, int m, int day) {
        if (!cabinet.has(c) || !isMeasure(m) || !isDay(day) || day < cabinet.cards[c].came) {
            return BAD;
        }
        return cabinet.cards[c].canMeasure(m, day, rules.value(GROW + m, day));
    }

    public int beside(int ones, int p, int what) {
        if (ones < 0 || ones > FINGERS || !isShare(p) || what < 0 || what > 3) {
            return BAD;
        }
        if (!telling.isThere) {
            return STATE;
        }
        int bits;
        if (what == 0 || what == 2) {
            looking.weigh(telling, now);
            looking.take(p);
            bits = cabinet.filedIn(looking.bits);
        } else {
            bits = cabinet.printed(ones);
        }
        if (what >= 2) {
            telling.findMatches(cabinet);
            bits &= telling.bits;
        }
        return Integer.bitCount(bits);
    }

    // ---- one man

    public int bar(int c, int d, boolean is) {
        if (!cabinet.has(c) || !cabinet.has(d) || c == d) {
            return BAD;
        }
        int was = bit(cabinet.isBarred(c, d));
        cabinet.setBar(c, d, is);
        return was;
    }

    public int join(int c, int d) {
        if (!cabinet.has(c) || !cabinet.has(d) || c == d) {
            return BAD;
        }
        return bit(cabinet.joined(c, d));
    }

    public int men(int what) {
        boolean isCard = what >= 10 && cabinet.has(what - 10);
        if (!isCard && (what < 0 || what > 2)) {
            return BAD;
        }
        men.gather();
        if (isCard) {
            return men.least[what - 10];
        }
        switch (what) {
            case 0: return men.number();
            case 1: return men.greatest();
            default: return men.quarrels();
        }
    }

    public int guess(int hand, int m, int what) {
        if (!isHand(hand) || !isMeasure(m) || what < 0 || what > 2) {
            return BAD;
        }
        men.gather();
        men.findDoubles(hand, m);
        if (what == 2) {
            return men.doubles;
        }
        if (men.doubles == 0) {
            return NONE;
        }
        return (int) lowest(men.apart, men.doubles, what);
    }

    // ---- edges

    public int even(int m, int step, int what) {
        if (!isMeasure(m) || step < 10 || step > 100 || what < 0 || what > 3) {
            return BAD;
        }
        if (!edges.search(m, step)) {
            return NONE;
        }
        switch (what) {
            case 0: return edges.first;
            case 1: return edges.second;
            case 2: return edges.uneven;
            default: return edges.close;
        }
    }

    public int judge(int m, int one, int two, int what) {
        boolean areEdges = one >= 1 && one < two && two <= LONGEST;
        if (!isMeasure(m) || !areEdges || what < 0 || what > 1) {
            return BAD;
        }
        if (what == 0) {
            int below = edges.below(m, one);
            int belowSecond = edges.below(m, two);
            return edges.difference(below, belowSecond, edges.below(m, LONGEST + 1));
        }
        return Integer.bitCount(edges.near(m, one) | edges.near(m, two));
    }

    // ---- held

    public int hold(int c) {
        if (!cabinet.has(c)) {
            return BAD;
        }
        if (!telling.isThere) {
            return STATE;
        }
        telling.findMatches(cabinet);
        if (telling.misses[c] == NONE) {
            return STATE;
        }
        if (holds >= HOLDS) {
            return FULL;
        }
        heldBy[holds] = c;
        heldOn[holds] = now.date;
        heldHand[holds] = telling.hand;
        holds++;
        return holds - 1;
    }

    public int held(int h, int what) {
        if (!isHold(h) || what < 0 || what > 5) {
            return BAD;
        }
        switch (what) {
            case 0: return heldBy[h];
            case 1: return heldOn[h];
            case 2: return heldHand[h];
            case 3: return bit(heldWrong[h]);
            case 4: return Integer.bitCount(leaned(h));
            default: return leaned(h);
        }
    }

    public int wrong(int h) {
        if (!isHold(h)) {
            return BAD;
        }
        if (heldWrong[h]) {
            return STATE;
        }
        heldWrong[h] = true;
        return Integer.bitCount(leaned(h));
    }

    // ---- sheets

    public int sheet(int k, int lane, int n) {
        if (!isSheet(k) || !isLane(lane) || n > Sheet.ROOM) {
            return BAD;
        }
        if (n < 0) {
            return -10 - NO_SIZE;
        }
        sheets[k].renew(lane, n);
        return 1;
    }

    public int lay(int k, int i, int v) {
        if (!isSheet(k)) {
            return BAD;
        }
        Sheet sheet = sheets[k];
        if (!sheet.isThere) {
            return -10 - IS_NULL;
        }
        if (!sheet.has(i)) {
            return -10 - NO_INDEX;
        }
        sheet.put(i, v);
        return 1;
    }

    public int read(int hand, int k, int lane, int f, int n) {
        if (!isHand(hand) || !isSheet(k) || !isLane(lane) || n < 0 || n > CARDS) {
            return BAD;
        }
        Sheet sheet = sheets[k];
        int refused = n == 0 ? NO_FAULT : sheet.refusal(lane);
        int whole = 0;
        for (int i = 0; i < n * MEASURES && refused == NO_FAULT; i++) {
            if (!sheet.has(f + i)) {
                refused = NO_INDEX;
            } else if (sheet.cells[f + i] > LONGEST) {
                return -20 - i;
            } else {
                brought[i] = Math.max(sheet.cells[f + i], 0);
                whole = (i + 1) / MEASURES;
            }
            if (cabinet.number + whole > CARDS) {
                return FULL;
            }
        }
        for (int j = 0; j < whole; j++) {
            cabinet.add(hand, PLAIN, 0, brought, j * MEASURES);
        }
        latestTorn = refused;
        return whole;
    }

    public int torn() {
        return latestTorn;
    }

    public int count(int what) {
        switch (what) {
            case 0: return cabinet.number;
            case 1: return cabinet.number - cabinet.kept();
            case 2: return cabinet.due();
            case 3: return cabinet.elsewhere(cabinet.filedIn((1 << DRAWERS) - 1));
            case 4: return rules.lines;
            case 5: return cabinet.anews;
            case 6: return holds;
            case 7: return wrongHolds();
            case 8: return cabinet.bars;
            case 9: return now.date;
            case 10: return tape.length;
            case 11: return sheets[0].isThere ? sheets[0].size : NONE;
            default: return BAD;
        }
    }

    private int leaned(int h) {
        int bits = 0;
        for (int other = 0; other < holds; other++) {
            boolean isLater = other != h && heldOn[other] >= heldOn[h];
            boolean isSame = heldBy[other] == heldBy[h];
            if (isLater && (isSame || cabinet.joined(heldBy[h], heldBy[other]))) {
                bits |= 1 << other;
            }
        }
        return bits;
    }

    private int wrongHolds() {
        int number = 0;
        for (int h = 0; h < holds; h++) {
            number += bit(heldWrong[h]);
        }
        return number;
    }

    private boolean isHold(int h) {
        return h >= 0 && h < holds;
    }

    private static boolean isDay(int d) {
        return d >= 0 && d <= LAST_DAY;
    }

    private static boolean isHand(int hand) {
        return hand >= 0 && hand < HANDS;
    }

    private static boolean isMeasure(int m) {
        return m >= 0 && m < MEASURES;
    }

    /** What can be told of a measure: 0 is one that was not taken. */
    private static boolean isTold(int v) {
        return v >= 0 && v <= LONGEST;
    }

    private static boolean isShare(int p) {
        return p >= 0 && p <= 999;
    }

    private static boolean isSheet(int k) {
        return k >= 0 && k < SHEETS;
    }

    private static boolean isLane(int lane) {
        return lane >= Sheet.BYTES && lane <= Sheet.INTS;
    }

    private static int bit(boolean is) {
        return is ? 1 : 0;
    }

    /** The numerator (what 0) or denominator (1) of a fraction in lowest terms. */
    private static long lowest(long over, long under, int what) {
        long divisor = over;
        long rest = under;
        // 100 steps are more than Euclid's way needs for any two longs.
        for (int i = 0; i < 100 && rest != 0; i++) {
            long next = divisor % rest;
            divisor = rest;
            rest = next;
        }
        if (divisor == 0) {
            return 0;
        }
        return (what == 0 ? over : under) / divisor;
    }

    private static final class Tape {
        static final int ROOM = 240;
        static final int PIECE = 8;

        final byte[] bytes = new byte[ROOM];
        int length;

        boolean add(long v) {
            if (length > ROOM - PIECE) {
                return false;
            }
            for (int i = 0; i < PIECE; i++) {
                bytes[length + i] = (byte) (v >> 8 * (PIECE - 1 - i));
            }
            length += PIECE;
            return true;
        }

        /** The byte in a place (0 to 255); -1 where none is. */
        int signAt(int place) {
            return place >= 0 && place < length ? bytes[place] & 255 : -1;
        }
    }

    /** The lines that were told; a key is the rule's number, edges have that of the first one. */
    private static final class Rules {
        static final int LINES = 16;

        final int[] keys = new int[LINES];
        final int[] froms = new int[LINES];
        final int[] firsts = new int[LINES];
        final int[] seconds = new int[LINES];
        int lines;

        void add(int key, int from, int first, int second) {
            if (lines < LINES) {
                keys[lines] = key;
                froms[lines] = from;
                firsts[lines] = first;
                seconds[lines] = second;
                lines++;
            }
        }

        void become(Rules other) {
            lines = 0;
            for (int i = 0; i < other.lines; i++) {
                add(other.keys[i], other.froms[i], other.firsts[i], other.seconds[i]);
            }
        }

        boolean isThere(int key, int from) {
            for (int i = 0; i < lines; i++) {
                if (keys[i] == key && froms[i] == from) {
                    return true;
                }
            }
            return false;
        }

        int value(int rule, int date) {
            boolean isSecond = rule >= SECOND_EDGE && rule < SPREAD;
            int line = latest(isSecond ? rule - SECOND_EDGE : rule, date);
            if (line < 0) {
                return usual(rule);
            }
            return isSecond ? seconds[line] : firsts[line];
        }

        private int latest(int key, int date) {
            int best = -1;
            for (int i = 0; i < lines; i++) {
                boolean isIn = keys[i] == key && froms[i] <= date;
                if (isIn && (best < 0 || froms[i] > froms[best])) {
                    best = i;
                }
            }
            return best;
        }

        private static int usual(int rule) {
            if (rule < SECOND_EDGE) {
                return 333;
            }
            if (rule < SPREAD) {
                return 667;
            }
            if (rule < GROW) {
                return 3;
            }
            if (rule < KEEP) {
                return 0;
            }
            return rule == KEEP ? LAST_DAY : 2;
        }
    }

    /**
     * Reads the tape token by token. A token is read only when the one before has been taken, and
     * each step is passed over once there is a fault, so the fault that stays is the first met.
     */
    private static final class Reader {
        static final int END = 0, NAME = 1, NUMBER = 2, STOP = 3, NOTHING = 4;
        static final int NO_TOKEN = 1, NOT_THERE = 2, OUT_OF_BOUNDS = 3, TOO_MANY = 4, AGAIN = 5;
        static final int FIGURES = 4;

        final Tape tape;
        final Rules draft = new Rules();
        int found;
        /** Of the token at hand: its first byte, the first byte behind it, what it is. */
        int place;
        int behind;
        int kind;
        int number;

        Reader(Tape tape) {
            this.tape = tape;
        }

        boolean readText() {
            draft.lines = 0;
            found = NO_FAULT;
            behind = 0;
            step();
            for (int line = 0; line <= Rules.LINES && found == NO_FAULT && kind != END; line++) {
                // A token that begins no line is not the first one of a 17th line either.
                if (!isName("from") && !isRule()) {
                    fail(NOT_THERE);
                } else if (line == Rules.LINES) {
                    fail(TOO_MANY);
                } else {
                    readLine();
                }
            }
            return found == NO_FAULT;
        }

        private boolean isRule() {
            return isName("edge") || isName("spread") || isName("grow") || isName("keep")
                    || isName("other");
        }

        private void readLine() {
            int from = 0;
            if (isName("from")) {
                step();
                from = takeNumber(0, LAST_DAY);
            }
            if (found != NO_FAULT) {
                return;
            }
            if (isName("edge")) {
                step();
                int key = takeLetter(FIRST_EDGE, from);
                int first = takeNumber(1, LONGEST);
                int second = takeNumber(first + 1, LONGEST);
                takeStop(key, from, first, second);
            } else if (isName("spread")) {
                step();
                int key = SPREAD + needNumber(0, HANDS - 1);
                needNew(key, from);
                step();
                takeStop(key, from, takeNumber(0, 20), 0);
            } else if (isName("grow")) {
                step();
                int key = takeLetter(GROW, from);
                takeStop(key, from, takeNumber(0, 50), 0);
            } else if (isName("keep")) {
                needNew(KEEP, from);
                step();
                takeStop(KEEP, from, takeNumber(1, LAST_DAY), 0);
            } else if (isName("other")) {
                needNew(MORE, from);
                step();
                takeStop(MORE, from, takeNumber(0, 20), 0);
            } else {
                fail(NOT_THERE);
            }
        }

        private int takeLetter(int base, int from) {
            int letter = tape.signAt(place) - 'a';
            boolean isLetter = kind == NAME && behind - place == 1 && isMeasure(letter);
            if (!isLetter) {
                fail(NOT_THERE);
            }
            needNew(base + letter, from);
            step();
            return base + letter;
        }

        private int takeNumber(int least, int greatest) {
            int value = needNumber(least, greatest);
            step();
            return value;
        }

        private int needNumber(int least, int greatest) {
            if (kind != NUMBER) {
                fail(NOT_THERE);
            } else if (number < least || number > greatest) {
                fail(OUT_OF_BOUNDS);
            }
            return number;
        }

        private void needNew(int key, int from) {
            if (draft.isThere(key, from)) {
                fail(AGAIN);
            }
        }

        private void takeStop(int key, int from, int first, int second) {
            if (kind != STOP) {
                fail(NOT_THERE);
            }
            if (found == NO_FAULT) {
                draft.add(key, from, first, second);
            }
            step();
        }

        private void fail(int fault) {
            if (found == NO_FAULT) {
                found = fault;
            }
        }

        private boolean isName(String word) {
            if (kind != NAME || behind - place != word.length()) {
                return false;
            }
            for (int i = 0; i < word.length(); i++) {
                if (tape.signAt(place + i) != word.charAt(i)) {
                    return false;
                }
            }
            return true;
        }

        private void step() {
            if (found != NO_FAULT) {
                return;
            }
            place = behind;
            while (place < tape.length && tape.signAt(place) == ' ') {
                place++;
            }
            behind = place;
            int sign = tape.signAt(place);
            if (sign < 0) {
                kind = END;
            } else if (isLow(sign)) {
                stepName();
            } else if (isFigure(sign)) {
                stepNumber();
            } else if (sign == ';') {
                kind = STOP;
                behind++;
            } else {
                kind = NOTHING;
                fail(NO_TOKEN);
            }
        }

        private void stepName() {
            kind = NAME;
            while (behind < tape.length && isLow(tape.signAt(behind))) {
                behind++;
            }
        }

        private void stepNumber() {
            kind = NUMBER;
            number = 0;
            while (behind < tape.length && isFigure(tape.signAt(behind))) {
                // More figures than four are a fault below, so only four are ever summed.
                if (behind - place < FIGURES) {
                    number = number * 10 + tape.signAt(behind) - '0';
                }
                behind++;
            }
            if (behind - place > FIGURES) {
                kind = NOTHING;
                fail(NO_TOKEN);
            }
        }

        private static boolean isLow(int sign) {
            return sign >= 'a' && sign <= 'z';
        }

        private static boolean isFigure(int sign) {
            return sign >= '0' && sign <= '9';
        }
    }

    /** THE DAY with what holds on it, kept at hand because nearly every call asks it often. */
    private static final class Now {
        final Rules rules;
        final int[] holding = new int[RULES];
        int date;

        Now(Rules rules) {
            this.rules = rules;
            refresh();
        }

        void refresh() {
            for (int rule = 0; rule < RULES; rule++) {
                holding[rule] = rules.value(rule, date);
            }
        }

        int third(int m, int v) {
            if (v == 0) {
                return 1;
            }
            if (v < holding[FIRST_EDGE + m]) {
                return 0;
            }
            return v < holding[SECOND_EDGE + m] ? 1 : 2;
        }

        int drawerBy(int[] measures) {
            return 9 * third(0, measures[0]) + 3 * third(1, measures[1]) + third(2, measures[2]);
        }

        int spreadOf(int hand) {
            return holding[SPREAD + hand];
        }
    }

    private static final class Card {
        int hand;
        int kind;
        int prints;
        int came;
        int anews;
        /** The drawer; NONE when the card is out. */
        int filed;
        final int[] firstTold = new int[MEASURES];
        final int[] measures = new int[MEASURES];

        boolean isOut() {
            return filed == NONE;
        }

        boolean isDue(Now now) {
            return now.date - came >= now.holding[KEEP];
        }

        int spread(Now now) {
            int spread = now.spreadOf(hand);
            return kind == OTHER ? spread + now.holding[MORE] : spread;
        }

        int canMeasure(int m, int date, int grow) {
            if (measures[m] == 0 || kind != YOUNG) {
                return measures[m];
            }
            return measures[m] + grow * (date - came) / 100;
        }

        /** How far what is told lies beside this card's spans; NONE: this can not be the man. */
        int miss(int[] told, int spreads, Now now) {
            if (isOut()) {
                return NONE;
            }
            int sum = 0;
            for (int m = 0; m < MEASURES; m++) {
                if (told[m] > 0 && measures[m] > 0) {
                    int greatest = canMeasure(m, now.date, now.holding[GROW + m]);
                    int off = Math.max(0, Math.max(measures[m] - told[m], told[m] - greatest));
                    if (off > spreads) {
                        return NONE;
                    }
                    sum += off;
                }
            }
            return sum;
        }
    }

    private static final class Cabinet {
        static final int ANEWS = 40;

        final Now now;
        final Card[] cards = new Card[CARDS];
        int number;
        final boolean[] barred = new boolean[CARDS * CARDS];
        int bars;
        final int[] anewCard = new int[ANEWS];
        final int[] anewMeasure = new int[ANEWS];
        final int[] anewValue = new int[ANEWS];
        final int[] anewDay = new int[ANEWS];
        int anews;

        Cabinet(Now now) {
            this.now = now;
            for (int c = 0; c < CARDS; c++) {
                cards[c] = new Card();
            }
        }

        boolean has(int c) {
            return c >= 0 && c < number;
        }

        /** The caller has seen that the row has four measures from that place on. */
        int add(int hand, int kind, int prints, int[] row, int from) {
            if (number >= CARDS) {
                return FULL;
            }
            Card card = cards[number];
            card.hand = hand;
            card.kind = kind;
            card.prints = prints;
            card.came = now.date;
            for (int m = 0; m < MEASURES; m++) {
                card.firstTold[m] = row[from + m];
                card.measures[m] = row[from + m];
            }
            card.filed = now.drawerBy(card.measures);
            number++;
            return number - 1;
        }

        int tellAnew(int c, int m, int v) {
            if (anews >= ANEWS) {
                return FULL;
            }
            anewCard[anews] = c;
            anewMeasure[anews] = m;
            anewValue[anews] = v;
            anewDay[anews] = now.date;
            anews++;
            Card card = cards[c];
            int was = card.measures[m];
            card.measures[m] = v;
            card.anews++;
            return was;
        }

        int knownOn(int c, int m, int date) {
            if (date < cards[c].came) {
                return 0;
            }
            int known = cards[c].firstTold[m];
            // Days never go back, so the last row that fits was told last.
            for (int i = 0; i < anews; i++) {
                if (anewCard[i] == c && anewMeasure[i] == m && anewDay[i] <= date) {
                    known = anewValue[i];
                }
            }
            return known;
        }

        /** The cards (bits) that are filed in any of these drawers (bits). */
        int filedIn(int drawers) {
            int bits = 0;
            for (int c = 0; c < number; c++) {
                if (!cards[c].isOut() && (drawers >> cards[c].filed & 1) == 1) {
                    bits |= 1 << c;
                }
            }
            return bits;
        }

        /** How many of these cards (bits) lie in another drawer by the edges of THE DAY. */
        int elsewhere(int bits) {
            int sum = 0;
            for (int c = 0; c < number; c++) {
                boolean isMoved = cards[c].filed != now.drawerBy(cards[c].measures);
                sum += bit((bits >> c & 1) == 1 && isMoved);
            }
            return sum;
        }

        /** The cards (bits) in the print drawer for a number of ones. */
        int printed(int ones) {
            int bits = 0;
            for (int c = 0; c < number; c++) {
                if (!cards[c].isOut() && Integer.bitCount(cards[c].prints) == ones) {
                    bits |= 1 << c;
                }
            }
            return bits;
        }

        int kept() {
            int sum = 0;
            for (int c = 0; c < number; c++) {
                sum += bit(!cards[c].isOut());
            }
            return sum;
        }

        int due() {
            int sum = 0;
            for (int c = 0; c < number; c++) {
                sum += bit(!cards[c].isOut() && cards[c].isDue(now));
            }
            return sum;
        }

        boolean isBarred(int c, int d) {
            return barred[Math.min(c, d) * CARDS + Math.max(c, d)];
        }

        void setBar(int c, int d, boolean is) {
            bars += bit(is) - bit(isBarred(c, d));
            barred[Math.min(c, d) * CARDS + Math.max(c, d)] = is;
        }

        /** Whether two unlike cards join. */
        boolean joined(int c, int d) {
            Card one = cards[c];
            Card two = cards[d];
            if (one.isOut() || two.isOut() || isBarred(c, d)) {
                return false;
            }
            int spreads = one.spread(now) + two.spread(now);
            return one.miss(two.measures, spreads, now) != NONE
                    && two.miss(one.measures, spreads, now) != NONE;
        }
    }

    private static final class Telling {
        boolean isThere;
        int hand;
        final int[] measures = new int[MEASURES];
        /** By card; NONE: it can not be the man. */
        final int[] misses = new int[CARDS];
        final int[] order = new int[CARDS];
        int matches;
        int bits;

        void findMatches(Cabinet cabinet) {
            matches = 0;
            bits = 0;
            Now now = cabinet.now;
            for (int c = 0; c < cabinet.number; c++) {
                Card card = cabinet.cards[c];
                misses[c] = card.miss(measures, card.spread(now) + now.spreadOf(hand), now);
                if (misses[c] != NONE) {
                    insert(c);
                    bits |= 1 << c;
                }
            }
        }

        /** Behind all that miss as much, for cards come here by their numbers. */
        private void insert(int c) {
            int i = matches;
            while (i > 0 && misses[order[i - 1]] > misses[c]) {
                order[i] = order[i - 1];
                i--;
            }
            order[i] = c;
            matches++;
        }

        /** How many cards have a measure as near as this telling's hand spreads. */
        int near(int m, Cabinet cabinet) {
            int spread = cabinet.now.spreadOf(hand);
            int sum = 0;
            for (int c = 0; c < cabinet.number; c++) {
                Card card = cabinet.cards[c];
                boolean isTaken = !card.isOut() && card.measures[m] > 0;
                sum += bit(isTaken && Math.abs(card.measures[m] - measures[m]) <= spread);
            }
            return sum;
        }
    }

    /** The drawers by their chances: weights of a whole. */
    private static final class Looking {
        final int[] weights = new int[DRAWERS];
        int whole;
        final int[] order = new int[DRAWERS];
        int taken;
        int bits;
        /** How many whole numbers fall into each third of the measures 0, 1, 2. */
        private final int[] thirds = new int[9];

        void weigh(Telling telling, Now now) {
            whole = 1;
            for (int m = 0; m < 3; m++) {
                whole *= share(m, telling.measures[m], now.spreadOf(telling.hand), now);
            }
            for (int d = 0; d < DRAWERS; d++) {
                weights[d] = thirds[d / 9] * thirds[3 + d / 3 % 3] * thirds[6 + d % 3];
            }
        }

        private int share(int m, int told, int spread, Now now) {
            for (int third = 0; third < 3; third++) {
                thirds[3 * m + third] = bit(told == 0);
            }
            if (told == 0) {
                return 3;
            }
            int least = Math.max(1, told - spread);
            for (int v = least; v <= told + spread; v++) {
                thirds[3 * m + now.third(m, v)]++;
            }
            return told + spread - least + 1;
        }

        void take(int p) {
            int left = whole;
            taken = 0;
            bits = 0;
            for (int i = 0; i < DRAWERS && left * 1000L > p * (long) whole; i++) {
                int best = heaviest();
                order[i] = best;
                bits |= 1 << best;
                left -= weights[best];
                taken++;
            }
        }

        /** Of the drawers not yet taken, one at least of which is left. */
        private int heaviest() {
            int best = -1;
            for (int d = 0; d < DRAWERS; d++) {
                boolean isFree = (bits >> d & 1) == 0;
                if (isFree && (best < 0 || weights[d] > weights[best])) {
                    best = d;
                }
            }
            return Math.max(best, 0);
        }
    }

    private static final class Men {
        final Cabinet cabinet;
        /** The least card of each card's man; NONE: it is out. */
        final int[] least = new int[CARDS];
        int doubles;
        int apart;

        Men(Cabinet cabinet) {
            this.cabinet = cabinet;
        }

        void gather() {
            for (int c = 0; c < cabinet.number; c++) {
                least[c] = cabinet.cards[c].isOut() ? NONE : c;
            }
            for (int c = 0; c < cabinet.number; c++) {
                for (int d = c + 1; d < cabinet.number; d++) {
                    if (least[c] != least[d] && cabinet.joined(c, d)) {
                        hang(Math.min(least[c], least[d]), Math.max(least[c], least[d]));
                    }
                }
            }
        }

        private void hang(int man, int other) {
            for (int c = 0; c < cabinet.number; c++) {
                if (least[c] == other) {
                    least[c] = man;
                }
            }
        }

        private boolean isOne(int c, int d) {
            return least[c] != NONE && least[c] == least[d];
        }

        int number() {
            int sum = 0;
            for (int c = 0; c < cabinet.number; c++) {
                sum += bit(least[c] == c);
            }
            return sum;
        }

        int greatest() {
            int best = 0;
            for (int c = 0; c < cabinet.number; c++) {
                int size = 0;
                for (int d = c; d < cabinet.number; d++) {
                    size += bit(isOne(c, d));
                }
                best = Math.max(best, size);
            }
            return best;
        }

        int quarrels() {
            int sum = 0;
            for (int c = 0; c < cabinet.number; c++) {
                for (int d = c + 1; d < cabinet.number; d++) {
                    sum += bit(isOne(c, d) && cabinet.isBarred(c, d));
                }
            }
            return sum;
        }

        void findDoubles(int hand, int m) {
            doubles = 0;
            apart = 0;
            for (int c = 0; c < cabinet.number; c++) {
                for (int d = c + 1; d < cabinet.number; d++) {
                    Card one = cabinet.cards[c];
                    Card two = cabinet.cards[d];
                    boolean isOfHand = one.hand == hand || two.hand == hand;
                    boolean isTaken = one.measures[m] > 0 && two.measures[m] > 0;
                    if (isOfHand && one.hand != two.hand && isTaken && isOne(c, d)) {
                        doubles++;
                        apart += Math.abs(one.measures[m] - two.measures[m]);
                    }
                }
            }
        }
    }

    private static final class Edges {
        static final int LEAST_STEP = 10;

        final Cabinet cabinet;
        int first;
        int second;
        int uneven;
        int close;
        /** By multiples of the step: cards below, and cards (bits) near. */
        private final int[] belowEdge = new int[LONGEST / LEAST_STEP + 1];
        private final int[] nearEdge = new int[LONGEST / LEAST_STEP + 1];

        Edges(Cabinet cabinet) {
            this.cabinet = cabinet;
        }

        /** The step is 10 at least. False: there is nothing to be found. */
        boolean search(int m, int step) {
            int all = below(m, LONGEST + 1);
            if (step < LEAST_STEP || all == 0) {
                return false;
            }
            int last = LONGEST / step;
            for (int i = 1; i <= last; i++) {
                belowEdge[i] = below(m, i * step);
                nearEdge[i] = near(m, i * step);
            }
            boolean isFound = false;
            for (int i = 1; i <= last; i++) {
                for (int j = i + 1; j <= last; j++) {
                    int differs = difference(belowEdge[i], belowEdge[j], all);
                    int nears = Integer.bitCount(nearEdge[i] | nearEdge[j]);
                    boolean isBetter = differs < uneven || differs == uneven && nears < close;
                    if (!isFound || isBetter) {
                        isFound = true;
                        first = i * step;
                        second = j * step;
                        uneven = differs;
                        close = nears;
                    }
                }
            }
            return isFound;
        }

        private boolean isCounted(int c, int m) {
            return !cabinet.cards[c].isOut() && cabinet.cards[c].measures[m] > 0;
        }

        int below(int m, int edge) {
            int sum = 0;
            for (int c = 0; c < cabinet.number; c++) {
                sum += bit(isCounted(c, m) && cabinet.cards[c].measures[m] < edge);
            }
            return sum;
        }

        /** The cards (bits) that lie as near as their spread to an edge. */
        int near(int m, int edge) {
            int bits = 0;
            for (int c = 0; c < cabinet.number; c++) {
                Card card = cabinet.cards[c];
                int far = Math.abs(card.measures[m] - edge);
                if (isCounted(c, m) && far <= card.spread(cabinet.now)) {
                    bits |= 1 << c;
                }
            }
            return bits;
        }

        /** The greatest third less the least one. */
        int difference(int belowFirst, int belowSecond, int all) {
            int middle = belowSecond - belowFirst;
            int high = all - belowSecond;
            int greatest = Math.max(belowFirst, Math.max(middle, high));
            return greatest - Math.min(belowFirst, Math.min(middle, high));
        }
    }

    /** A row of cells; ints hold every lane, for what is laid is cut to the lane's bits. */
    private static final class Sheet {
        static final int BYTES = 0, SHORTS = 1, INTS = 2;
        static final int ROOM = 96;

        final int[] cells = new int[ROOM];
        boolean isThere;
        int lane;
        int size;

        void renew(int newLane, int n) {
            isThere = true;
            lane = newLane;
            size = n;
            for (int i = 0; i < ROOM; i++) {
                cells[i] = 0;
            }
        }

        boolean has(int i) {
            return i >= 0 && i < size;
        }

        void put(int i, int v) {
            switch (lane) {
                case BYTES: cells[i] = (byte) v; break;
                case SHORTS: cells[i] = (short) v; break;
                default: cells[i] = v;
            }
        }

        /** What the machine finds before it takes a cell. */
        int refusal(int asLane) {
            if (!isThere) {
                return IS_NULL;
            }
            return lane == asLane ? NO_FAULT : NO_CAST;
        }
    }
}
