import java.util.function.Supplier;

/**
 * The boundary cases that promises 22 to 30 name, and "Terms" of them: cards that are one man,
 * edges by which cards fall most evenly, men who were held.
 */
public final class BoundaryMenTest {
    private static final int BAD = -1, STATE = -2, FULL = -3, NONE = -4;

    private BoundaryMenTest() {
    }

    public static void main(String[] args) {
        barBounds();
        barRoom();
        joinBounds();
        joinNearness();
        joinSpreads();
        joinYoung();
        menBounds();
        menChains();
        menOfMany();
        quarrelsOfMany();
        guessBounds();
        guessFractions();
        guessOfMany();
        evenBounds();
        evenNothing();
        evenMultiples();
        evenLeast();
        evenNear();
        judgeBounds();
        judgeThirds();
        judgeNear();
        holdBounds();
        holdRoom();
        heldBounds();
        heldNumbers();
        leanedDays();
        leanedJoins();
        wrong();
        Check.close();
    }

    private static void due(String what, long got, long want) {
        Check.due(what, got, want);
    }

    /** Four cards, the last one out; a telling, three holds of which one was wrong, a bar. */
    private static ElevenMeasures busyRoom() {
        ElevenMeasures x = Check.room("keep 5;spread 1 5;");
        x.card(0, 0, 331, 400, 700, 60, 3);
        x.card(1, 1, 335, 0, 701, 999, 1023);
        x.card(2, 2, 334, 401, 699, 60, 0);
        x.card(3, 0, 334, 401, 699, 60, 0);
        x.day(5);
        x.tell(1, 331, 400, 700, 0);
        x.hold(0);
        x.hold(1);
        x.hold(2);
        x.wrong(1);
        x.out(3);
        x.bar(0, 1, true);
        x.sheet(1, 0, 4);
        x.feed(0x6b65657020373b20L);
        return x;
    }

    /** Cards by HAND 0 whose heads are these. */
    private static ElevenMeasures heads(String text, int... lengths) {
        ElevenMeasures x = Check.room(text);
        for (int v : lengths) {
            Check.plain(x, 0, v, 0, 0, 0);
        }
        return x;
    }

    // Promise 22: "A BAR is between two CARDS, or not: whether it was (1, 0). BAD: also one and the
    // same."
    private static void barBounds() {
        Supplier<ElevenMeasures> busy = BoundaryMenTest::busyRoom;
        Twin.bounds("22: first CARD, with 0,", busy, 1, 3, (x, v) -> x.bar(v, 0, true));
        Twin.bounds("22: second CARD, with 3,", busy, 0, 2, (x, v) -> x.bar(3, v, true));
        Twin.bounds("22: no BAR, first CARD", busy, 1, 3, (x, v) -> x.bar(v, 0, false));
        Twin.bounds("22: no BAR, second CARD", busy, 0, 2, (x, v) -> x.bar(3, v, false));
        for (int c = 0; c < 4; c++) {
            int one = c;
            Twin.refused("22: one and the same", busy, x -> x.bar(one, one, true), BAD);
            Twin.refused("22: one and the same, no BAR", busy, x -> x.bar(one, one, false), BAD);
        }
        Twin.refused("22: nothing there yet", ElevenMeasures::new, x -> x.bar(0, 1, true), BAD);
        Supplier<ElevenMeasures> single = () -> heads("", 5);
        Twin.refused("22: one CARD alone", single, x -> x.bar(0, 1, true), BAD);
        Twin.refused("22: one CARD alone, first", single, x -> x.bar(1, 0, true), BAD);
        ElevenMeasures x = busyRoom();
        due("22: it was", x.bar(1, 0, true), 1);
        due("35: one BAR still", x.count(8), 1);
        due("22: it was, and is not", x.bar(0, 1, false), 1);
        due("35: no BAR", x.count(8), 0);
        due("22: it was not, and is not", x.bar(1, 0, false), 0);
        due("35: none below none", x.count(8), 0);
        due("22: with an OUT one", x.bar(3, 0, true), 0);
        due("22: it was there", x.bar(0, 3, true), 1);
    }

    // Promises 22, 35: a BAR between any two of 24 CARDS.
    private static void barRoom() {
        ElevenMeasures x = new ElevenMeasures();
        for (int c = 0; c < 24; c++) {
            Check.plain(x, 0, 500, 500, 500, 500);
        }
        int bars = 0;
        for (int c = 0; c < 24; c++) {
            for (int d = c + 1; d < 24; d++) {
                due("22: between " + c + " and " + d, x.bar(d, c, true), 0);
                bars++;
            }
        }
        due("35: 276 BARS", x.count(8), bars);
        due("24: 24 MEN", x.men(0), 24);
        due("24: no QUARRELS", x.men(2), 0);
        due("22: the last is taken away", x.bar(22, 23, false), 1);
        due("35: 275 BARS", x.count(8), 275);
        due("23: these two JOIN", x.join(23, 22), 1);
        due("23: those ahead do not", x.join(21, 22), 0);
        due("24: 23 MEN", x.men(0), 23);
    }

    // Promise 23: "Whether two CARDS JOIN (1, 0). BAD: also one and the same."
    private static void joinBounds() {
        Supplier<ElevenMeasures> busy = BoundaryMenTest::busyRoom;
        Twin.bounds("23: first CARD, with 0,", busy, 1, 3, (x, v) -> x.join(v, 0));
        Twin.bounds("23: second CARD, with 3,", busy, 0, 2, (x, v) -> x.join(3, v));
        for (int c = 0; c < 4; c++) {
            int one = c;
            Twin.refused("23: one and the same", busy, x -> x.join(one, one), BAD);
        }
        Twin.refused("23: nothing there yet", ElevenMeasures::new, x -> x.join(0, 1), BAD);
        Twin.refused("23: one CARD alone", () -> heads("", 5), x -> x.join(0, 1), BAD);
        ElevenMeasures x = busyRoom();
        due("23: a BAR", x.join(0, 1), 0);
        due("23: none", x.join(0, 2), 1);
        due("23: one is OUT", x.join(2, 3), 0);
        due("23: the other is OUT", x.join(3, 2), 0);
    }

    // Promise 23, Terms: "each CAN BE the other's TELLING": as near as both SPREADS, summed.
    private static void joinNearness() {
        for (int m = 0; m < 4; m++) {
            for (int apart : new int[] {0, 7, 8, 9, 500}) {
                ElevenMeasures x = Check.room("spread 1 5;");
                int two = 400 + apart;
                x.card(0, 0, m == 0 ? 400 : 7, m == 1 ? 400 : 7, m == 2 ? 400 : 7, m == 3 ? 400 : 7,
                        0);
                x.card(1, 0, m == 0 ? two : 7, m == 1 ? two : 7, m == 2 ? two : 7, m == 3 ? two : 7,
                        0);
                due("23: " + apart + " apart by MEASURE " + m, x.join(0, 1), apart <= 8 ? 1 : 0);
                due("23: the other way", x.join(1, 0), apart <= 8 ? 1 : 0);
                x.anew(1, m, 0);
                due("23: not taken in both", x.join(0, 1), 1);
                x.anew(0, m, 0);
                due("23: not taken in either", x.join(0, 1), 1);
            }
        }
        ElevenMeasures x = new ElevenMeasures();
        Check.plain(x, 0, 0, 5, 0, 999);
        Check.plain(x, 0, 500, 0, 500, 0);
        due("23: nothing taken in both", x.join(0, 1), 1);
    }

    // Promise 23, Terms: "the SPREAD of OTHER ones with other"; SPREADS are those of THE DAY.
    private static void joinSpreads() {
        ElevenMeasures x = Check.room("spread 0 0;spread 1 20;other 20;from 1 other 0;"
                + "from 2 spread 0 1;");
        int[][] cards = {{0, 0, 500}, {0, 0, 501}, {0, 2, 520}, {0, 2, 540}, {1, 2, 600},
            {1, 2, 680}, {1, 2, 681}, {0, 0, 500}};
        for (int[] card : cards) {
            x.card(card[0], card[1], card[2], 0, 0, 0, 0);
        }
        int[][] rows = {{0, 7, 1, 1, 1}, {0, 1, 0, 0, 1}, {0, 2, 1, 0, 0}, {1, 2, 1, 0, 0},
            {0, 3, 0, 0, 0}, {2, 3, 1, 0, 0}, {4, 5, 1, 0, 0}, {4, 6, 0, 0, 0}, {5, 6, 1, 1, 1},
            {3, 4, 1, 0, 0}};
        for (int day = 0; day < 3; day++) {
            x.day(day);
            for (int[] row : rows) {
                due("23: " + row[0] + " and " + row[1] + " on day " + day, x.join(row[0], row[1]),
                        row[2 + day]);
                due("23: the other way", x.join(row[1], row[0]), row[2 + day]);
            }
        }
    }

    // Promise 23, Terms: "each CAN BE the other's": what one can grow to does not do for both.
    private static void joinYoung() {
        ElevenMeasures x = Check.room("grow a 50;");
        x.card(0, 1, 100, 0, 0, 0, 0);
        x.day(100);
        x.card(0, 1, 140, 0, 0, 0, 0);
        Check.plain(x, 0, 106, 0, 0, 0);
        x.tell(0, 140, 0, 0, 0);
        due("18: the young one can be 140", x.match(50), 0);
        due("23: 140 can not be 100", x.join(0, 1), 0);
        due("23: the other way", x.join(1, 0), 0);
        due("23: as near each way", x.join(0, 2), 1);
        x.anew(2, 0, 107);
        due("23: one farther one way", x.join(0, 2), 0);
        due("23: one farther the other way", x.join(2, 0), 0);
    }

    // Promise 24: "How many MEN (what 0: OUT ones do not count), CARDS of the greatest of them (1),
    // QUARRELS (2); 10 and c: the least CARD of CARD c's (NONE: OUT). BAD."
    private static void menBounds() {
        int[] bad = {-1, 3, 9, 14, 33, 34, Integer.MIN_VALUE, Integer.MAX_VALUE};
        for (int what : bad) {
            Twin.refused("24: what " + what, BoundaryMenTest::busyRoom, x -> x.men(what), BAD);
        }
        int[] asked = {0, 1, 2, 10, 11, 12, 13};
        // CARDS 0 and 2 JOIN, 1 and 2 do not by arm, foot, ear: 999 and 60
        int[] want = {2, 2, 0, 0, 1, 0, NONE};
        for (int i = 0; i < asked.length; i++) {
            due("24: what " + asked[i], busyRoom().men(asked[i]), want[i]);
        }
        ElevenMeasures x = new ElevenMeasures();
        due("24: no MEN yet", x.men(0), 0);
        due("24: no CARDS of the greatest yet", x.men(1), 0);
        due("24: no QUARRELS yet", x.men(2), 0);
        due("24: no CARD 0 yet", x.men(10), BAD);
        Check.plain(x, 0, 5, 5, 5, 5);
        due("24: one alone", x.men(0), 1);
        due("24: the greatest has one", x.men(1), 1);
        due("24: it is its own", x.men(10), 0);
        due("24: no CARD 1 yet", x.men(11), BAD);
    }

    // Promise 24, Terms: "CARDS that hang together by JOINS; a QUARREL: two of one of the MEN with
    // a BAR between".
    private static void menChains() {
        // as near as 6: 100, 106, 112 hang together, 119 does not
        ElevenMeasures x = heads("keep 5;", 112, 100, 119, 106);
        due("24: two MEN", x.men(0), 2);
        due("24: three of one", x.men(1), 3);
        due("24: one by chain", x.men(11), 0);
        due("24: alone", x.men(12), 2);
        x.bar(0, 1, true);
        due("24: one QUARREL", x.men(2), 1);
        due("24: one man still", x.men(11), 0);
        x.bar(0, 2, true);
        due("24: a BAR between two MEN is none", x.men(2), 1);
        x.bar(0, 3, true);
        due("24: a BAR breaks the chain", x.men(0), 3);
        due("24: no QUARREL then", x.men(2), 0);
        due("24: two of one", x.men(1), 2);
        due("24: the least of the other", x.men(13), 1);
        x.bar(0, 3, false);
        x.bar(0, 2, false);
        due("24: one farther", x.men(10 + 2), 2);
        x.anew(2, 0, 118);
        due("24: told anew, it hangs on", x.men(10 + 2), 0);
        x.bar(1, 2, true);
        due("24: two QUARRELS", x.men(2), 2);
        x.day(5);
        x.out(3);
        due("24: the link is OUT", x.men(0), 2);
        due("24: NONE of an OUT one", x.men(13), NONE);
        due("24: QUARRELS without it", x.men(2), 0);
        x.out(0);
        x.out(1);
        x.out(2);
        due("24: all are OUT", x.men(0), 0);
        due("24: no greatest", x.men(1), 0);
        due("24: no QUARREL", x.men(2), 0);
        due("24: NONE of CARD 0", x.men(10), NONE);
    }

    // Promise 24: 24 CARDS of one man, of 24 men; a chain told from both ends.
    private static void menOfMany() {
        for (int apart : new int[] {0, 6, 7}) {
            ElevenMeasures x = new ElevenMeasures();
            for (int c = 0; c < 24; c++) {
                // the ends come first, so that the chain closes last
                int place = c % 2 == 0 ? c / 2 : 23 - c / 2;
                Check.plain(x, 0, 1 + apart * place, 0, 0, 0);
            }
            boolean isOne = apart < 7;
            due("24: MEN, " + apart + " apart", x.men(0), isOne ? 1 : 24);
            due("24: of the greatest", x.men(1), isOne ? 24 : 1);
            for (int c = 0; c < 24; c++) {
                due("24: the least of " + c, x.men(10 + c), isOne ? 0 : c);
            }
            due("24: no 25th", x.men(34), BAD);
        }
    }

    // Promise 24: as many QUARRELS as a chain of 24 can have.
    private static void quarrelsOfMany() {
        ElevenMeasures x = new ElevenMeasures();
        for (int c = 0; c < 24; c++) {
            Check.plain(x, 0, 1 + 6 * c, 0, 0, 0);
        }
        int bars = 0;
        for (int c = 0; c < 24; c++) {
            for (int d = c + 2; d < 24; d++) {
                x.bar(c, d, true);
                bars++;
            }
        }
        due("24: QUARRELS", x.men(2), bars);
        due("24: one man", x.men(1), 24);
        x.bar(11, 12, true);
        due("24: two MEN", x.men(0), 2);
        due("24: QUARRELS within them", x.men(2), 2 * (66 - 11));
    }

    // Promise 25: "GUESS of a HAND for a MEASURE: 0 the numerator, 1 the denominator, 2 how many
    // DOUBLES. BAD; NONE (0, 1): there are none."
    private static void guessBounds() {
        Supplier<ElevenMeasures> busy = BoundaryMenTest::busyRoom;
        Twin.bounds("25: HAND", busy, 0, 5, (x, v) -> x.guess(v, 0, 2));
        Twin.bounds("25: MEASURE", busy, 0, 3, (x, v) -> x.guess(0, v, 2));
        Twin.bounds("25: what", busy, 0, 2, (x, v) -> x.guess(0, 0, v));
        Twin.bounds("25: HAND, nothing there yet,", ElevenMeasures::new, 0, 5,
                (x, v) -> x.guess(v, 0, 2));
        ElevenMeasures x = new ElevenMeasures();
        due("25: there are none, numerator", x.guess(5, 3, 0), NONE);
        due("25: there are none, denominator", x.guess(5, 3, 1), NONE);
        due("25: how many", x.guess(5, 3, 2), 0);
        // by CARDS 0 and 2
        ElevenMeasures y = busyRoom();
        int[][] rows = {{0, 0, 3, 1, 1}, {2, 0, 3, 1, 1}, {0, 3, 0, 1, 1}, {1, 0, NONE, NONE, 0},
            {3, 0, NONE, NONE, 0}, {5, 0, NONE, NONE, 0}};
        for (int[] row : rows) {
            for (int what = 0; what < 3; what++) {
                due("25: HAND " + row[0] + ", MEASURE " + row[1] + ", " + what,
                        y.guess(row[0], row[1], what), row[2 + what]);
            }
        }
    }

    // Promise 25, Terms: "for a MEASURE taken in both how far they are apart"; lowest terms.
    private static void guessFractions() {
        ElevenMeasures x = new ElevenMeasures();
        x.card(0, 0, 100, 200, 0, 60, 0);
        x.card(1, 0, 103, 0, 300, 60, 0);
        x.card(2, 0, 106, 200, 300, 0, 0);
        x.card(0, 0, 101, 201, 301, 60, 0);
        int[][] rows = {{0, 0, 16, 4}, {1, 0, 8, 3}, {2, 0, 14, 3}, {0, 1, 1, 2}, {1, 1, NONE, 0},
            {2, 1, 1, 2}, {0, 2, 2, 2}, {1, 2, 1, 2}, {2, 2, 1, 2}, {0, 3, 0, 2}, {1, 3, 0, 2},
            {2, 3, NONE, 0}, {3, 0, NONE, 0}};
        for (int[] row : rows) {
            String what = "25: HAND " + row[0] + ", MEASURE " + row[1];
            due(what + ", DOUBLES", x.guess(row[0], row[1], 2), row[3]);
            int over = x.guess(row[0], row[1], 0);
            int under = x.guess(row[0], row[1], 1);
            if (row[3] == 0) {
                due(what, over, NONE);
                due(what + ", denominator", under, NONE);
            } else {
                due(what + ", the share", (long) over * row[3], (long) under * row[2]);
                due(what + ", lowest terms", java.math.BigInteger.valueOf(over)
                        .gcd(java.math.BigInteger.valueOf(under)).intValue(), 1);
            }
        }
        for (int c = 0; c < 4; c++) {
            x.anew(c, 0, 1);
        }
        due("25: MEASURES of 1 are taken", x.guess(0, 0, 2), 4);
        due("25: 0 over", x.guess(0, 3, 0), 0);
        due("25: 0 under", x.guess(0, 3, 1), 1);
    }

    // Promise 25: 12 CARDS by one HAND, 12 by another, all of one man; one HAND makes no DOUBLES.
    private static void guessOfMany() {
        ElevenMeasures x = Check.room("keep 1;spread 0 20;spread 5 20;");
        for (int c = 0; c < 24; c++) {
            x.card(c < 12 ? 0 : 5, 0, c < 12 ? 400 : 440, 999, 0, 0, 0);
        }
        due("25: DOUBLES", x.guess(0, 0, 2), 144);
        due("25: DOUBLES of the other", x.guess(5, 0, 2), 144);
        due("25: 40 by each", x.guess(0, 0, 0), 40);
        due("25: lowest", x.guess(0, 0, 1), 1);
        due("25: of another HAND", x.guess(1, 0, 2), 0);
        x.day(1);
        for (int c = 1; c < 24; c++) {
            if (c != 23) {
                x.out(c);
            }
        }
        due("25: two that are not OUT", x.guess(5, 0, 2), 1);
        x.bar(0, 23, true);
        due("25: two MEN", x.guess(5, 0, 2), 0);
        due("25: there are none", x.guess(5, 0, 0), NONE);
        x.bar(0, 23, false);
        x.out(23);
        due("25: one alone", x.guess(0, 0, 2), 0);
    }

    // Promise 26: "EVEN EDGES of a MEASURE with a step: ... BAD". Terms: "a step (10 to 100)".
    private static void evenBounds() {
        Supplier<ElevenMeasures> busy = BoundaryMenTest::busyRoom;
        Twin.bounds("26: MEASURE", busy, 0, 3, (x, v) -> x.even(v, 50, 0));
        Twin.bounds("26: step", busy, 10, 100, (x, v) -> x.even(0, v, 0));
        Twin.bounds("26: what", busy, 0, 3, (x, v) -> x.even(0, 50, v));
        Twin.bounds("26: step, BAD ahead of NONE", ElevenMeasures::new, 10, 100,
                (x, v) -> x.even(0, v, 0));
    }

    // Promise 26: "NONE: there are no CARDS for it" (not OUT, taken).
    private static void evenNothing() {
        ElevenMeasures x = Check.room("keep 1;");
        evenIs("no CARDS yet", x, 0, 10, NONE, NONE, NONE, NONE);
        Check.plain(x, 0, 0, 5, 0, 0);
        evenIs("not taken", x, 0, 10, NONE, NONE, NONE, NONE);
        evenIs("not taken", x, 2, 100, NONE, NONE, NONE, NONE);
        evenIs("one is taken", x, 1, 100, 100, 200, 1, 0);
        x.anew(0, 1, 0);
        evenIs("told anew as not taken", x, 1, 100, NONE, NONE, NONE, NONE);
        x.anew(0, 0, 999);
        evenIs("one of 999", x, 0, 100, 100, 200, 1, 0);
        x.day(1);
        x.out(0);
        evenIs("it is OUT", x, 0, 100, NONE, NONE, NONE, NONE);
    }

    private static void evenIs(String what, ElevenMeasures x, int m, int step, int... want) {
        for (int i = 0; i < 4; i++) {
            due("26: " + what + ", step " + step + ", " + i, x.even(m, step, i), want[i]);
        }
    }

    // Promise 26, Terms: "all two edges that are multiples of step, from 1 step on up to 999".
    private static void evenMultiples() {
        ElevenMeasures x = heads("spread 0 0;", 9, 10, 998);
        evenIs("the first step on", x, 0, 10, 10, 20, 0, 1);
        x = heads("spread 0 0;", 50, 998, 999);
        // 27 times 37 is 999
        evenIs("up to 999 itself", x, 0, 37, 74, 999, 0, 1);
        evenIs("990 is the last", x, 0, 10, 10, 60, 2, 0);
        x = heads("spread 0 0;", 50, 899, 900);
        evenIs("900 is the last", x, 0, 100, 100, 900, 0, 1);
        x = heads("spread 0 0;", 50, 900, 901);
        evenIs("none above 900", x, 0, 100, 100, 200, 2, 0);
        x = heads("spread 0 0;", 1, 989, 990);
        evenIs("10 times 99", x, 0, 99, 99, 990, 0, 1);
        x = heads("spread 0 0;", 1, 979, 980);
        evenIs("10 times 98", x, 0, 98, 98, 980, 0, 1);
        x = heads("spread 0 0;", 99, 100, 200);
        evenIs("one step apart", x, 0, 100, 100, 200, 0, 2);
    }

    // Promise 26, Terms: "those by which the greatest third of CARDS less the least one is the
    // least; of several by which the fewest CARDS lie ... to an edge; then the least first, then
    // the least second one".
    private static void evenLeast() {
        // four CARDS: 2, 1, 1 in any order are 1
        ElevenMeasures x = heads("spread 0 0;", 100, 300, 500, 700);
        evenIs("by three CARDS, the least first", x, 0, 100, 200, 400, 1, 0);
        evenIs("none is near", x, 0, 10, 110, 310, 1, 0);
        x = heads("spread 0 0;", 100, 300, 500);
        evenIs("then the least second", x, 0, 10, 110, 310, 0, 0);
        evenIs("far steps", x, 0, 100, 200, 400, 0, 0);
        x = heads("spread 0 20;", 90, 200, 310);
        // first edges 100 to 200, seconds 210 to 310: farther than 20 from all are 120 to 170 and
        // 230 to 280
        evenIs("as few as can be near", x, 0, 10, 120, 230, 0, 0);
        x = heads("spread 0 20;", 100, 140, 180);
        // 130 and 150 are near to 140 alone, 110 to 100, 120 to both; 180 is near from 160 on
        evenIs("one is near to both edges", x, 0, 10, 130, 150, 0, 1);
        x = heads("spread 0 0;", 1, 1, 1, 1, 1);
        evenIs("all of one third", x, 0, 100, 100, 200, 5, 0);
    }

    // Promise 26, Terms: "CARDS lie as near as their SPREAD to an edge"; that of an OTHER one with
    // other, on THE DAY.
    private static void evenNear() {
        ElevenMeasures x = heads("spread 0 9;from 1 spread 0 10;from 1 spread 1 0;", 100, 110, 300);
        // 110 is 10 from 100 and 100 from 200
        due("27: the next edge is 10 away", x.judge(0, 90, 119, 1), 1);
        due("27: 10 is not as near as 9", x.judge(0, 90, 290, 1), 0);
        x.day(1);
        due("27: 10 is as near as 10", x.judge(0, 90, 290, 1), 2);
        ElevenMeasures y = heads("spread 0 9;other 1;", 90, 150);
        y.card(0, 2, 210, 0, 0, 0, 0);
        // 90 is 10 from 100; 210 as an OTHER one is as near as 10 to 200
        evenIs("an OTHER one is near", y, 0, 100, 100, 200, 0, 1);
        ElevenMeasures z = heads("spread 0 10;", 90, 150, 210);
        evenIs("both are near", z, 0, 100, 100, 200, 0, 2);
        ElevenMeasures u = heads("spread 0 20;", 120, 180, 181);
        // no edges part them: 100 is near to 120, 200 to 180 and 181
        evenIs("far from all", u, 0, 100, 300, 400, 3, 0);
        due("27: each once", u.judge(0, 160, 200, 1), 2);
        due("27: 120 is near to 100 and to 140", u.judge(0, 100, 140, 1), 1);
    }

    // Promise 27: "Two edges of a MEASURE are judged: ... BAD: also not 1 to 999, the second not
    // above the first."
    private static void judgeBounds() {
        Supplier<ElevenMeasures> busy = BoundaryMenTest::busyRoom;
        Twin.bounds("27: MEASURE", busy, 0, 3, (x, v) -> x.judge(v, 333, 667, 0));
        Twin.bounds("27: first edge below 999", busy, 1, 998, (x, v) -> x.judge(0, v, 999, 0));
        Twin.bounds("27: first edge below 500", busy, 1, 499, (x, v) -> x.judge(0, v, 500, 1));
        Twin.bounds("27: second edge above 1", busy, 2, 999, (x, v) -> x.judge(0, 1, v, 0));
        Twin.bounds("27: second edge above 500", busy, 501, 999, (x, v) -> x.judge(0, 500, v, 1));
        Twin.bounds("27: what", busy, 0, 1, (x, v) -> x.judge(0, 333, 667, v));
        int[][] bad = {{0, 0}, {0, 999}, {1, 1}, {999, 999}, {999, 1000}, {1000, 1001}, {-1, 5},
            {500, 1}};
        for (int[] pair : bad) {
            Twin.refused("27: " + pair[0] + ", " + pair[1], busy,
                    x -> x.judge(0, pair[0], pair[1], 0), BAD);
        }
        ElevenMeasures x = new ElevenMeasures();
        due("27: nobody yet", x.judge(0, 1, 2, 0), 0);
        due("27: nobody near yet", x.judge(3, 998, 999, 1), 0);
    }

    // Promise 27, Terms: THIRDS 0 below the first edge, 2 from the second edge on, else 1.
    private static void judgeThirds() {
        ElevenMeasures x = heads("spread 0 0;keep 1;", 1, 998, 999, 0, 500);
        int[][] rows = {{1, 2, 3}, {2, 998, 1}, {2, 999, 1}, {998, 999, 1}, {501, 998, 2},
            {501, 999, 1}, {2, 500, 3}, {2, 501, 1}, {1, 500, 3}, {1, 999, 3}};
        for (int[] row : rows) {
            due("27: " + row[0] + ", " + row[1], x.judge(0, row[0], row[1], 0), row[2]);
        }
        due("27: another MEASURE has nobody", x.judge(1, 1, 999, 0), 0);
        x.day(1);
        x.out(4);
        due("27: without the OUT one", x.judge(0, 2, 999, 0), 0);
        ElevenMeasures all = new ElevenMeasures();
        for (int c = 0; c < 24; c++) {
            Check.plain(all, 0, 500, 0, 0, 0);
        }
        due("27: all 24 in THIRD 0", all.judge(0, 501, 502, 0), 24);
        due("27: all 24 in THIRD 1", all.judge(0, 500, 501, 0), 24);
        due("27: all 24 in THIRD 2", all.judge(0, 499, 500, 0), 24);
        due("27: all 24 near", all.judge(0, 1, 503, 1), 24);
        due("27: none near", all.judge(0, 1, 504, 1), 0);
        due("27: none near from below", all.judge(0, 496, 999, 1), 0);
        due("27: all near from below", all.judge(0, 497, 999, 1), 24);
    }

    // Promise 27, Terms: "CARDS near an edge": as near as their SPREAD.
    private static void judgeNear() {
        ElevenMeasures x = Check.room("spread 0 0;spread 1 20;other 20;keep 1;");
        x.card(0, 0, 500, 0, 0, 0, 0);
        x.card(1, 0, 500, 0, 0, 0, 0);
        x.card(1, 2, 500, 0, 0, 0, 0);
        x.card(1, 2, 0, 0, 0, 0, 0);
        int[][] rows = {{500, 3}, {501, 2}, {520, 2}, {521, 1}, {540, 1}, {541, 0}, {499, 2},
            {480, 2}, {479, 1}, {460, 1}, {459, 0}};
        for (int[] row : rows) {
            due("27: first edge " + row[0], x.judge(0, row[0], 999, 1), row[1]);
            due("27: second edge " + row[0], x.judge(0, 1, row[0], 1), row[1]);
        }
        due("27: near both, each once", x.judge(0, 500, 501, 1), 3);
        due("27: not taken is not near to 1", x.judge(0, 1, 2, 1), 0);
        x.day(1);
        x.out(2);
        due("27: an OUT one is not near", x.judge(0, 500, 501, 1), 2);
    }

    // Promise 28: "A HOLD by a CARD: its number. BAD; STATE: there is no TELLING, or the CARD is
    // none of its MATCHES".
    private static void holdBounds() {
        Supplier<ElevenMeasures> busy = BoundaryMenTest::busyRoom;
        Twin.bounds("28: CARD", busy, 0, 3, (x, v) -> x.hold(v));
        Supplier<ElevenMeasures> untold = () -> heads("", 100, 200);
        Twin.bounds("28: CARD, BAD ahead of STATE", untold, 0, 1, (x, v) -> x.hold(v));
        Twin.refused("28: no TELLING", untold, x -> x.hold(0), STATE);
        Twin.refused("28: OUT, so none of its MATCHES", busy, x -> x.hold(3), STATE);
        Supplier<ElevenMeasures> far = () -> {
            ElevenMeasures x = heads("", 100, 94, 93);
            x.tell(0, 100, 0, 0, 0);
            return x;
        };
        Twin.refused("28: one too far", far, x -> x.hold(2), STATE);
        due("28: as near", far.get().hold(1), 0);
        due("28: numbered as they come", busyRoom().hold(2), 3);
    }

    // Promise 28, Terms: "HOLDS (12) are numbered as they come"; "FULL".
    private static void holdRoom() {
        Supplier<ElevenMeasures> twelve = () -> {
            ElevenMeasures x = heads("", 100, 101, 900);
            x.tell(0, 100, 0, 0, 0);
            for (int h = 0; h < 12; h++) {
                due("29: none yet", x.held(h, 0), BAD);
                due("28: as they come", x.hold(h % 2), h);
                due("35: so many", x.count(6), h + 1);
            }
            return x;
        };
        Twin.refused("28: the 13th", twelve, x -> x.hold(0), FULL);
        Twin.refused("28: STATE ahead of FULL", twelve, x -> x.hold(2), STATE);
        Twin.refused("28: BAD ahead of FULL", twelve, x -> x.hold(3), BAD);
        ElevenMeasures x = twelve.get();
        x.wrong(0);
        due("28: a WRONG one leaves no room", x.hold(0), FULL);
        due("29: the last", x.held(11, 0), 1);
        due("29: all others lean on it", x.held(11, 4), 11);
        due("29: their bits", x.held(11, 5), (1 << 11) - 1);
        due("29: on the first", x.held(0, 5), (1 << 12) - 2);
        due("30: the last was WRONG", x.wrong(11), 11);
    }

    // Promise 29: "Of a HOLD: 0 CARD, ... 5 these (bits). BAD."
    private static void heldBounds() {
        Supplier<ElevenMeasures> busy = BoundaryMenTest::busyRoom;
        Twin.bounds("29: HOLD", busy, 0, 2, (x, v) -> x.held(v, 0));
        Twin.bounds("29: what", busy, 0, 5, (x, v) -> x.held(0, v));
        for (int what = 0; what < 6; what++) {
            due("29: nothing there yet, " + what, new ElevenMeasures().held(0, what), BAD);
        }
    }

    // Promise 29: of each what; a HOLD keeps its day and its TELLING's HAND.
    private static void heldNumbers() {
        ElevenMeasures x = busyRoom();
        x.day(9999);
        x.tell(5, 334, 0, 0, 0);
        due("28: on the last day", x.hold(2), 3);
        int[][] rows = {{0, 5, 1, 0, 2, 4 | 8}, {1, 5, 1, 1, 0, 0}, {2, 5, 1, 0, 2, 1 | 8},
            {2, 9999, 5, 0, 0, 0}};
        for (int h = 0; h < 4; h++) {
            for (int what = 0; what < 6; what++) {
                due("29: HOLD " + h + ", " + what, x.held(h, what), rows[h][what]);
            }
        }
    }

    // Promises 29, 30, Terms: "other HOLDS by the same CARD, ... of that day or later".
    private static void leanedDays() {
        ElevenMeasures x = heads("", 100);
        x.tell(0, 100, 0, 0, 0);
        int[] days = {0, 1, 1, 2};
        for (int day : days) {
            x.day(day);
            x.hold(0);
        }
        int[] leaned = {2 | 4 | 8, 4 | 8, 2 | 8, 0};
        for (int h = 0; h < 4; h++) {
            due("29: leaned on " + h, x.held(h, 5), leaned[h]);
            due("29: how many", x.held(h, 4), Integer.bitCount(leaned[h]));
            due("30: itself does not count", x.wrong(h), Integer.bitCount(leaned[h]));
        }
    }

    // Promises 29, 30, Terms: "or by one that JOINS it now".
    private static void leanedJoins() {
        ElevenMeasures x = heads("keep 3;", 100, 106, 112);
        x.tell(0, 106, 0, 0, 0);
        for (int c = 0; c < 3; c++) {
            x.hold(c);
        }
        due("29: one that JOINS it, not by chain", x.held(0, 5), 2);
        due("29: two that JOIN it", x.held(1, 5), 1 | 4);
        x.anew(2, 0, 113);
        due("29: one farther now", x.held(1, 5), 1);
        x.bar(0, 1, true);
        due("29: a BAR now", x.held(1, 5), 0);
        x.bar(0, 1, false);
        due("29: none now", x.held(1, 5), 1);
        x.wrong(0);
        due("29: a WRONG one leaned on it as well", x.held(1, 5), 1);
        x.day(3);
        x.hold(0);
        x.out(0);
        due("29: an OUT one JOINS none", x.held(1, 5), 0);
        due("29: by the same CARD, though it is OUT", x.held(0, 5), 8);
    }

    // Promise 30: "A HOLD was WRONG: how many HOLDS LEANED on it (itself does not count). BAD;
    // STATE: it is told already."
    private static void wrong() {
        Supplier<ElevenMeasures> busy = BoundaryMenTest::busyRoom;
        Twin.bounds("30: HOLD", busy, 0, 2, (x, v) -> x.wrong(v));
        Twin.refused("30: nothing there yet", ElevenMeasures::new, x -> x.wrong(0), BAD);
        Twin.refused("30: told already", busy, x -> x.wrong(1), STATE);
        ElevenMeasures x = busyRoom();
        due("30: one leaned on it", x.wrong(2), 1);
        due("30: it is told", x.wrong(2), STATE);
        due("29: it is WRONG", x.held(2, 3), 1);
        due("35: two WRONG ones", x.count(7), 2);
        due("30: the last one", x.wrong(0), 1);
        due("35: all are WRONG", x.count(7), 3);
        due("35: HOLDS stay", x.count(6), 3);
    }
}
