import java.util.function.Supplier;

/** The boundary cases that promises 15 to 21 name, and "Terms" of them: looking. */
public final class BoundaryLookTest {
    private static final int BAD = -1, STATE = -2, NONE = -4;

    private BoundaryLookTest() {
    }

    public static void main(String[] args) {
        tell();
        chanceBounds();
        chanceAboveNothing();
        chanceAboveLongest();
        chanceOfTheDay();
        chanceNotTaken();
        lookBounds();
        lookExactly();
        lookOrder();
        lookCards();
        matchBounds();
        matchNearness();
        matchSpreads();
        matchGrown();
        matchNotTaken();
        matchOrder();
        matchAnew();
        byChanceBounds();
        byChanceNearness();
        byChanceOfMany();
        grownBounds();
        grownDays();
        besideBounds();
        besideOnes();
        besideFound();
        Check.close();
    }

    private static void due(String what, long got, long want) {
        Check.due(what, got, want);
    }

    /** A room with a telling and three cards, one of them out. */
    private static ElevenMeasures toldRoom() {
        ElevenMeasures x = untoldRoom();
        x.tell(1, 331, 400, 700, 0);
        x.hold(0);
        return x;
    }

    private static ElevenMeasures untoldRoom() {
        ElevenMeasures x = Check.room("keep 5;spread 1 5;grow a 50;");
        x.card(0, 0, 331, 400, 700, 60, 3);
        x.card(1, 1, 330, 0, 701, 999, 1023);
        x.card(5, 2, 334, 401, 699, 60, 0);
        x.day(5);
        x.out(2);
        x.sheet(1, 0, 4);
        x.feed(0x6b65657020373b20L);
        return x;
    }

    private static void isChance(String what, ElevenMeasures x, int d, long over, long under) {
        due("16: " + what + ", numerator of " + d, x.chance(d, 0), over);
        due("16: " + what + ", denominator of " + d, x.chance(d, 1), under);
    }

    // Promise 15: "THE TELLING becomes one: DRAWER of it (edges of THE DAY). BAD." Terms: HANDS 0
    // to 5, MEASURES 1 to 999 or not taken (0).
    private static void tell() {
        Supplier<ElevenMeasures> told = BoundaryLookTest::toldRoom;
        Supplier<ElevenMeasures> untold = BoundaryLookTest::untoldRoom;
        for (Supplier<ElevenMeasures> made : java.util.List.of(told, untold)) {
            Twin.bounds("15: HAND", made, 0, 5, (x, v) -> x.tell(v, 1, 1, 1, 1));
            Twin.bounds("15: MEASURE 0", made, 0, 999, (x, v) -> x.tell(0, v, 1, 1, 1));
            Twin.bounds("15: MEASURE 1", made, 0, 999, (x, v) -> x.tell(0, 1, v, 1, 1));
            Twin.bounds("15: MEASURE 2", made, 0, 999, (x, v) -> x.tell(0, 1, 1, v, 1));
            Twin.bounds("15: MEASURE 3", made, 0, 999, (x, v) -> x.tell(0, 1, 1, 1, v));
        }
        ElevenMeasures x = new ElevenMeasures();
        due("15: the least", x.tell(0, 1, 1, 1, 1), 0);
        due("15: the greatest", x.tell(5, 999, 999, 999, 999), 26);
        due("15: nothing taken", x.tell(5, 0, 0, 0, 0), 13);
        due("18: a TELLING is there", x.match(0), 0);
        ElevenMeasures y = Check.room("from 1 edge a 1 2;");
        due("15: the day ahead of the edges", y.tell(0, 332, 400, 400, 0), 4);
        y.day(1);
        due("15: edges of THE DAY", y.tell(0, 332, 400, 400, 0), 22);
    }

    // Promise 16: "Chance of a DRAWER: 0 the numerator, 1 the denominator. BAD; STATE: there is no
    // TELLING."
    private static void chanceBounds() {
        Supplier<ElevenMeasures> told = BoundaryLookTest::toldRoom;
        Supplier<ElevenMeasures> untold = BoundaryLookTest::untoldRoom;
        Twin.bounds("16: DRAWER", told, 0, 26, (x, v) -> x.chance(v, 1));
        Twin.bounds("16: what", told, 0, 1, (x, v) -> x.chance(4, v));
        Twin.bounds("16: DRAWER, BAD ahead of STATE", untold, 0, 26, (x, v) -> x.chance(v, 0));
        Twin.bounds("16: what, BAD ahead of STATE", untold, 0, 1, (x, v) -> x.chance(0, v));
        for (int d = 0; d < 27; d++) {
            due("16: no TELLING", untoldRoom().chance(d, d % 2), STATE);
        }
        Supplier<ElevenMeasures> refused = () -> {
            ElevenMeasures x = untoldRoom();
            x.tell(6, 1, 1, 1, 1);
            return x;
        };
        due("16: no TELLING by one that was refused", refused.get().chance(0, 0), STATE);
    }

    // Promise 16, Terms: "SPREAD of its HAND less or more, each whole number of these (above 0) as
    // likely".
    private static void chanceAboveNothing() {
        ElevenMeasures x = Check.room("edge a 2 3;spread 1 0;spread 2 20;");
        // 1 to 4
        x.tell(0, 1, 0, 0, 0);
        isChance("1, spread 3", x, 4, 1, 36);
        isChance("1, spread 3", x, 13, 1, 36);
        isChance("1, spread 3", x, 22, 1, 18);
        // 1 to 6: 0 is left out
        x.tell(0, 3, 0, 0, 0);
        isChance("3, spread 3", x, 0, 1, 54);
        isChance("3, spread 3", x, 26, 2, 27);
        // 1 to 7: nothing is left out
        x.tell(0, 4, 0, 0, 0);
        isChance("4, spread 3", x, 0, 1, 63);
        isChance("4, spread 3", x, 26, 5, 63);
        // 2 to 8: 1 is too far
        x.tell(0, 5, 0, 0, 0);
        isChance("5, spread 3", x, 0, 0, 1);
        isChance("5, spread 3", x, 9, 1, 63);
        // 1 alone
        x.tell(1, 1, 0, 0, 0);
        isChance("1, spread 0", x, 0, 1, 9);
        isChance("1, spread 0", x, 9, 0, 1);
        // 1 to 21
        x.tell(2, 1, 0, 0, 0);
        isChance("1, spread 20", x, 8, 1, 189);
        isChance("1, spread 20", x, 18, 19, 189);
    }

    // Promise 16, Terms: whole numbers above 999 are as likely; lowest terms; 41 numbers at most.
    private static void chanceAboveLongest() {
        ElevenMeasures x = Check.room("edge a 998 999;edge b 481 482;edge c 1 999;spread 0 20;"
                + "spread 1 0;");
        // 979 to 1019
        x.tell(0, 999, 0, 0, 0);
        isChance("999, spread 20", x, 0, 19, 369);
        isChance("999, spread 20", x, 9, 1, 369);
        isChance("999, spread 20", x, 18, 7, 123);
        // 998 of 979 to 1019, 480 and 481 of 480 to 520, 999 of 959 to 999: 1 of 41 by each
        x.tell(0, 999, 500, 979, 0);
        isChance("41 of each", x, 9 + 2, 1, 68921);
        isChance("41 of each", x, 9 + 3 + 2, 1, 68921);
        isChance("41 of each", x, 9 + 1, 40, 68921);
        isChance("41 of each", x, 18 + 6 + 2, 21 * 39, 68921);
        isChance("41 of each", x, 18 + 6 + 1, 21 * 39 * 40, 68921);
        isChance("no number", x, 0, 0, 1);
        x.tell(1, 999, 999, 999, 999);
        for (int d = 0; d < 27; d++) {
            isChance("sure", x, d, d == 26 ? 1 : 0, 1);
        }
    }

    // Promise 16, Terms: DRAWER by edges of THE DAY; SPREAD of the TELLING's HAND, on THE DAY.
    private static void chanceOfTheDay() {
        ElevenMeasures x = Check.room("from 1 edge a 1 2;from 2 spread 0 1;from 3 edge a 500 501;");
        x.tell(0, 500, 400, 400, 0);
        isChance("day 0", x, 13, 1, 1);
        x.day(1);
        isChance("day 1", x, 22, 1, 1);
        isChance("day 1", x, 13, 0, 1);
        x.day(3);
        isChance("day 3", x, 4, 1, 3);
        isChance("day 3", x, 13, 1, 3);
        isChance("day 3", x, 22, 1, 3);
        Check.text(x, "edge a 500 501;");
        isChance("a text", x, 4, 3, 7);
        isChance("a text", x, 13, 1, 7);
    }

    // Promise 16, Terms: "not taken: THIRD 0, 1, 2 as likely"; MEASURE 3 files nothing.
    private static void chanceNotTaken() {
        ElevenMeasures x = new ElevenMeasures();
        for (int foot : new int[] {0, 1, 999}) {
            x.tell(0, 0, 0, 0, foot);
            for (int d = 0; d < 27; d++) {
                isChance("nothing taken", x, d, 1, 27);
            }
        }
        x.tell(0, 0, 999, 0, 0);
        isChance("an arm", x, 7, 1, 9);
        isChance("an arm", x, 4, 0, 1);
        x.tell(0, 0, 0, 1, 0);
        isChance("a foot", x, 24, 1, 9);
        isChance("a foot", x, 25, 0, 1);
    }

    // Promise 17: "LOOK with p: 0 how many DRAWERS, 1 these (bits), 2 CARDS FILED in them; 10 and i
    // (0 to 26): DRAWER i as taken (NONE). BAD; STATE." Terms: p 0 to 999.
    private static void lookBounds() {
        Supplier<ElevenMeasures> told = BoundaryLookTest::toldRoom;
        Supplier<ElevenMeasures> untold = BoundaryLookTest::untoldRoom;
        Twin.bounds("17: p", told, 0, 999, (x, v) -> x.look(v, 0));
        Twin.bounds("17: p, BAD ahead of STATE", untold, 0, 999, (x, v) -> x.look(v, 0));
        int[] bad = {-1, 3, 9, 37, Integer.MIN_VALUE, Integer.MAX_VALUE};
        for (int what : bad) {
            Twin.refused("17: what " + what, told, x -> x.look(0, what), BAD);
            Twin.refused("17: what " + what + " ahead of STATE", untold, x -> x.look(0, what), BAD);
        }
        int[] taken = {0, 1, 2, 10, 11, 36};
        for (int what : taken) {
            Twin.refused("17: no TELLING, what " + what, untold, x -> x.look(0, what), STATE);
            Check.holds("17: what " + what, toldRoom().look(0, what) != BAD);
        }
    }

    // Promise 17, Terms: "as many as it takes so that what is left is p of 1000 at most".
    private static void lookExactly() {
        ElevenMeasures x = Check.room("edge a 8 9;spread 0 4;spread 1 2;spread 2 0;");
        // 1 to 8: 7 of 8 in DRAWER 4, 1 of 8 in 13
        x.tell(0, 4, 500, 500, 0);
        int[][] rows = {{0, 2}, {124, 2}, {125, 1}, {126, 1}, {999, 1}};
        for (int[] row : rows) {
            due("17: 125 of 1000 are left, p " + row[0], x.look(row[0], 0), row[1]);
        }
        // 6, 7 in DRAWER 4, 8 in 13, 9, 10 in 22: 2, 2, 1 of 5
        x.tell(1, 8, 500, 500, 0);
        int[][] fifths = {{0, 3}, {199, 3}, {200, 2}, {599, 2}, {600, 1}, {999, 1}};
        for (int[] row : fifths) {
            due("17: fifths, p " + row[0], x.look(row[0], 0), row[1]);
        }
        due("17: of several the least number", x.look(999, 10), 4);
        due("17: then the other", x.look(0, 11), 22);
        due("17: then the least chance", x.look(0, 12), 13);
        due("17: none without a chance", x.look(0, 13), NONE);
        x.tell(2, 8, 500, 500, 0);
        due("17: a sure one, p 0", x.look(0, 0), 1);
        due("17: a sure one, p 999", x.look(999, 0), 1);
        due("17: a sure one, bits", x.look(0, 1), 1 << 13);
        // 1 of 27 is 37 and a little more
        x.tell(0, 0, 0, 0, 999);
        for (int k = 1; k <= 27; k++) {
            int left = (27 - k) * 1000 / 27;
            due("17: " + k + " by more than is left", x.look(left + 1, 0), k);
            due("17: by less", x.look(left, 0), Math.min(27, left == 0 || k == 27 ? k : k + 1));
        }
    }

    // Promise 17, Terms: "DRAWERS by chance, the greatest first (of several the least number)".
    private static void lookOrder() {
        ElevenMeasures x = new ElevenMeasures();
        x.tell(0, 0, 0, 0, 0);
        for (int i = 0; i < 27; i++) {
            due("17: all alike, " + i, x.look(0, 10 + i), i);
            due("17: 13 of them, " + i, x.look(520, 10 + i), i < 13 ? i : NONE);
        }
        due("17: all of them", x.look(0, 1), (1 << 27) - 1);
        due("17: 13 of them, bits", x.look(520, 1), (1 << 13) - 1);
        // arm in THIRD 1 by 6 of 7, in 2 by 1 of 7
        x.tell(0, 0, 664, 400, 0);
        int[] order = {4, 13, 22, 7, 16, 25, NONE};
        for (int i = 0; i < order.length; i++) {
            due("17: two chances, " + i, x.look(0, 10 + i), order[i]);
        }
        due("17: two chances, bits", x.look(0, 1),
                1 << 4 | 1 << 13 | 1 << 22 | 1 << 7 | 1 << 16 | 1 << 25);
        due("17: what is taken for one p is not for another", x.look(143, 1),
                1 << 4 | 1 << 13 | 1 << 22);
    }

    // Promise 17: "2 CARDS FILED in them": where they were FILED, and not OUT.
    private static void lookCards() {
        ElevenMeasures x = Check.room("keep 1;from 1 edge a 1 2;");
        x.tell(0, 400, 400, 400, 0);
        due("17: no CARDS yet", x.look(0, 2), 0);
        for (int c = 0; c < 24; c++) {
            Check.plain(x, 0, 400, 400, 400, 0);
        }
        due("17: all 24", x.look(0, 2), 24);
        x.anew(0, 0, 1);
        due("17: FILED there, whatever is told anew", x.look(0, 2), 24);
        x.day(1);
        due("17: FILED elsewhere than by the edges of THE DAY", x.look(0, 2), 0);
        x.file(23);
        due("17: FILED anew", x.look(0, 2), 1);
        x.out(23);
        due("17: OUT", x.look(0, 2), 0);
    }

    // Promise 18: "MATCHES: 0 how many, 1 these (bits); 10 and i (0 to 23): CARD i of them (NONE),
    // 50 and c: MISS of CARD c (NONE: it can not be). BAD; STATE."
    private static void matchBounds() {
        Supplier<ElevenMeasures> told = BoundaryLookTest::toldRoom;
        Supplier<ElevenMeasures> untold = BoundaryLookTest::untoldRoom;
        int[] bad = {-1, 2, 9, 34, 49, 53, 73, 74, Integer.MIN_VALUE, Integer.MAX_VALUE};
        for (int what : bad) {
            Twin.refused("18: what " + what, told, x -> x.match(what), BAD);
            Twin.refused("18: what " + what + " ahead of STATE", untold, x -> x.match(what), BAD);
        }
        int[] taken = {0, 1, 10, 33, 50, 52};
        for (int what : taken) {
            Twin.refused("18: no TELLING, what " + what, untold, x -> x.match(what), STATE);
            Check.holds("18: what " + what, toldRoom().match(what) != BAD);
        }
        ElevenMeasures x = new ElevenMeasures();
        x.tell(0, 1, 1, 1, 1);
        due("18: no CARDS yet", x.match(0), 0);
        due("18: no bits", x.match(1), 0);
        due("18: no first of them", x.match(10), NONE);
        due("18: no last of them", x.match(33), NONE);
        due("18: no CARD to miss", x.match(50), BAD);
        due("18: out of three", toldRoom().match(52), NONE);
    }

    // Promise 18, Terms: "as near as both SPREADS, summed: no farther below ..., no farther above";
    // MISS: 0 within.
    private static void matchNearness() {
        for (int m = 0; m < 4; m++) {
            ElevenMeasures x = new ElevenMeasures();
            x.card(1, 0, m == 0 ? 500 : 0, m == 1 ? 500 : 0, m == 2 ? 500 : 0, m == 3 ? 500 : 0, 0);
            int[][] rows = {{493, NONE}, {494, 6}, {499, 1}, {500, 0}, {501, 1}, {506, 6},
                {507, NONE}, {1, NONE}, {999, NONE}};
            for (int[] row : rows) {
                x.tell(0, m == 0 ? row[0] : 0, m == 1 ? row[0] : 0, m == 2 ? row[0] : 0,
                        m == 3 ? row[0] : 0);
                due("18: " + row[0] + " of MEASURE " + m, x.match(50), row[1]);
                due("18: how many by " + row[0], x.match(0), row[1] == NONE ? 0 : 1);
                due("18: these by " + row[0], x.match(1), row[1] == NONE ? 0 : 1);
                due("18: the first by " + row[0], x.match(10), row[1] == NONE ? NONE : 0);
                due("28: a HOLD by " + row[0], x.hold(0), row[1] == NONE ? STATE : x.count(6) - 1);
            }
        }
        ElevenMeasures x = new ElevenMeasures();
        Check.plain(x, 0, 1, 999, 0, 0);
        int[][] ends = {{1, 999, 0}, {7, 999, 6}, {8, 999, NONE}, {1, 993, 6}, {1, 992, NONE},
            {7, 993, 12}};
        for (int[] row : ends) {
            x.tell(0, row[0], row[1], 0, 0);
            due("18: by " + row[0] + ", " + row[1], x.match(50), row[2]);
        }
    }

    // Promise 18, Terms: both SPREADS summed, that of an OTHER CARD with other; a TELLING has its
    // HAND's alone; all four MEASURES are summed in MISS.
    private static void matchSpreads() {
        ElevenMeasures x = Check.room("spread 0 0;spread 1 20;other 20;");
        x.card(0, 0, 500, 500, 500, 500, 0);
        x.card(0, 2, 500, 500, 500, 500, 0);
        x.card(1, 2, 500, 500, 500, 500, 0);
        int[][] rows = {{0, 500, 0, 0, 0}, {0, 501, NONE, 4, 4}, {0, 520, NONE, 80, 80},
            {0, 521, NONE, NONE, 84}, {0, 480, NONE, 80, 80}, {0, 479, NONE, NONE, 84},
            {1, 520, 80, 80, 80}, {1, 521, NONE, 84, 84}, {1, 540, NONE, 160, 160},
            {1, 541, NONE, NONE, 164}, {1, 560, NONE, NONE, 240}, {1, 561, NONE, NONE, NONE},
            {1, 440, NONE, NONE, 240}, {1, 439, NONE, NONE, NONE}};
        for (int[] row : rows) {
            x.tell(row[0], row[1], row[1], row[1], row[1]);
            for (int c = 0; c < 3; c++) {
                due("18: HAND " + row[0] + ", " + row[1] + ", CARD " + c, x.match(50 + c),
                        row[2 + c]);
            }
        }
        x.tell(1, 500, 500, 500, 521);
        due("18: one MEASURE is too far", x.match(50), NONE);
        x.tell(1, 520, 480, 500, 501);
        due("18: summed", x.match(50), 41);
    }

    // Promise 18, Terms: "no farther above (GROWN) what it can be"; MISS: beside the span.
    private static void matchGrown() {
        ElevenMeasures x = Check.room("grow a 50;grow b 1;");
        x.card(0, 1, 100, 0, 0, 0, 0);
        x.card(0, 1, 0, 100, 0, 0, 0);
        x.card(0, 2, 100, 100, 0, 0, 0);
        int[][] rows = {{0, 106, 6}, {0, 107, NONE}, {1, 107, NONE}, {2, 107, 6}, {2, 108, NONE},
            {99, 155, 6}, {99, 156, NONE}, {100, 150, 0}, {100, 151, 1}, {100, 156, 6},
            {100, 157, NONE}, {100, 100, 0}, {100, 99, 1}, {100, 94, 6}, {100, 93, NONE}};
        for (int[] row : rows) {
            x.day(row[0]);
            x.tell(0, row[1], 0, 0, 0);
            due("18: young by 50, day " + row[0] + ", " + row[1], x.match(50), row[2]);
        }
        int[][] arms = {{100, 107, 6}, {100, 108, NONE}, {199, 107, 6}, {199, 108, NONE},
            {200, 108, 6}, {200, 109, NONE}};
        for (int[] row : arms) {
            x.day(row[0]);
            x.tell(0, 0, row[1], 0, 0);
            due("18: young by 1, day " + row[0] + ", " + row[1], x.match(51), row[2]);
        }
        x.tell(0, 108, 0, 0, 0);
        due("18: an OTHER one does not grow", x.match(52), 8);
        x.tell(0, 109, 0, 0, 0);
        due("18: not by one", x.match(52), NONE);
    }

    // Promise 18, Terms: "each MEASURE taken in both": what is not taken in one is not asked.
    private static void matchNotTaken() {
        ElevenMeasures x = Check.room("keep 1;");
        Check.plain(x, 0, 100, 0, 300, 0);
        x.card(0, 1, 0, 0, 0, 0, 0);
        int[][] rows = {{0, 0, 0, 0, 0}, {0, 999, 0, 999, 0}, {101, 1, 0, 1, 1}, {0, 0, 298, 0, 2},
            {101, 0, 298, 0, 3}, {107, 0, 0, 0, NONE}, {1, 0, 0, 0, NONE}};
        for (int[] row : rows) {
            x.tell(0, row[0], row[1], row[2], row[3]);
            due("18: MISS", x.match(50), row[4]);
            due("18: a CARD of nothing can be anyone", x.match(51), 0);
        }
        x.anew(0, 0, 0);
        x.tell(0, 999, 0, 0, 0);
        due("18: told anew as not taken", x.match(50), 0);
        x.anew(0, 0, 999);
        due("18: told anew", x.match(50), 0);
        x.anew(0, 0, 1);
        due("18: told anew as 1", x.match(50), NONE);
        x.day(1);
        due("13: out", x.out(1), 1);
        due("18: what is OUT can not be", x.match(51), NONE);
        due("18: none is", x.match(0), 0);
    }

    // Promise 18, Terms: "MATCHES: all that CAN BE, by MISS, then by numbers."
    private static void matchOrder() {
        ElevenMeasures x = new ElevenMeasures();
        for (int c = 0; c < 24; c++) {
            Check.plain(x, 0, 506 - c % 3, 0, 0, 0);
        }
        x.tell(0, 500, 0, 0, 0);
        due("18: all 24", x.match(0), 24);
        due("18: all bits", x.match(1), (1 << 24) - 1);
        for (int i = 0; i < 24; i++) {
            due("18: CARD " + i, x.match(10 + i), i % 8 * 3 + 2 - i / 8);
        }
        x.anew(2, 0, 507);
        due("18: one is too far", x.match(0), 23);
        due("18: the first then", x.match(10), 5);
        due("18: the last then", x.match(32), 21);
        due("18: no 24th", x.match(33), NONE);
        x.anew(23, 0, 500);
        due("18: the nearest is first", x.match(10), 23);
        due("18: then the others", x.match(11), 5);
        ElevenMeasures y = new ElevenMeasures();
        int[] misses = {3, 1, 2, 0, 1, 6, 3, 0};
        for (int miss : misses) {
            Check.plain(y, 0, 500 - miss, 0, 0, 0);
        }
        y.tell(0, 500, 0, 0, 0);
        int[] order = {3, 7, 1, 4, 2, 0, 6, 5, NONE};
        for (int i = 0; i < order.length; i++) {
            due("18: by MISS, then by numbers, " + i, y.match(10 + i), order[i]);
        }
    }

    // Promise 18: MATCHES of THE TELLING, on THE DAY, of what is told now.
    private static void matchAnew() {
        ElevenMeasures x = Check.room("from 2 spread 0 0;");
        Check.plain(x, 0, 100, 0, 0, 0);
        Check.plain(x, 0, 110, 0, 0, 0);
        x.tell(0, 105, 0, 0, 0);
        due("18: both", x.match(1), 3);
        x.tell(0, 111, 0, 0, 0);
        due("18: another TELLING", x.match(1), 2);
        x.tell(0, 999, 0, 0, 0);
        due("18: a third one", x.match(1), 0);
        x.tell(0, 110, 0, 0, 0);
        due("18: the first again", x.match(11), NONE);
        x.day(2);
        due("18: SPREADS of THE DAY, as near", x.match(51), 0);
        x.tell(0, 109, 0, 0, 0);
        due("18: SPREADS of THE DAY, one farther", x.match(51), NONE);
        due("15: one that is refused", x.tell(0, 110, 0, 0, 1000), BAD);
        due("18: leaves THE TELLING", x.match(51), NONE);
    }

    // Promise 19: "BY CHANCE: 0 the numerator, 1 the denominator. BAD; STATE; NONE: there are no
    // CARDS that are not OUT."
    private static void byChanceBounds() {
        Twin.bounds("19: what", BoundaryLookTest::toldRoom, 0, 1, (x, v) -> x.byChance(v));
        Twin.bounds("19: what, BAD ahead of STATE", BoundaryLookTest::untoldRoom, 0, 1,
                (x, v) -> x.byChance(v));
        ElevenMeasures x = Check.room("keep 1;");
        due("19: STATE ahead of NONE", x.byChance(0), STATE);
        x.tell(0, 0, 0, 0, 0);
        due("19: no CARDS yet", x.byChance(0), NONE);
        due("19: no CARDS yet, denominator", x.byChance(1), NONE);
        due("19: BAD ahead of NONE", x.byChance(2), BAD);
        Check.plain(x, 0, 0, 0, 0, 0);
        due("19: one CARD", x.byChance(0), 1);
        due("19: of one", x.byChance(1), 1);
        x.day(1);
        x.out(0);
        due("19: it is OUT", x.byChance(0), NONE);
        due("19: it is OUT, denominator", x.byChance(1), NONE);
    }

    // Promise 19, Terms: "the share of them whose MEASURE (taken) is no farther from it than SPREAD
    // of its HAND".
    private static void byChanceNearness() {
        for (int m = 0; m < 4; m++) {
            ElevenMeasures x = Check.room("spread 1 5;");
            int[] lengths = {494, 495, 500, 505, 506, 0};
            for (int v : lengths) {
                x.card(0, 2, m == 0 ? v : 9, m == 1 ? v : 9, m == 2 ? v : 9, m == 3 ? v : 9, 0);
            }
            x.tell(1, m == 0 ? 500 : 0, m == 1 ? 500 : 0, m == 2 ? 500 : 0, m == 3 ? 500 : 0);
            // 6 times 3 of 6
            due("19: 495 to 505 of MEASURE " + m, x.byChance(0), 3);
            due("19: whole", x.byChance(1), 1);
            x.tell(0, m == 0 ? 1 : 0, m == 1 ? 1 : 0, m == 2 ? 1 : 0, m == 3 ? 1 : 0);
            due("19: nobody by 1", x.byChance(0), 0);
            due("19: lowest terms of nothing", x.byChance(1), 1);
        }
        ElevenMeasures x = Check.room("from 1 spread 0 0;");
        Check.plain(x, 0, 1, 999, 0, 0);
        x.tell(0, 4, 996, 0, 0);
        due("19: 1 and 999, as near", x.byChance(0), 1);
        x.tell(0, 5, 996, 0, 0);
        due("19: one farther", x.byChance(0), 0);
        x.tell(0, 1, 999, 0, 0);
        x.day(1);
        due("19: SPREAD of THE DAY, the same", x.byChance(0), 1);
        x.tell(0, 2, 999, 0, 0);
        due("19: SPREAD of THE DAY, one farther", x.byChance(0), 0);
    }

    // Promise 19: 24 CARDS, four MEASURES; those that are OUT do not count.
    private static void byChanceOfMany() {
        ElevenMeasures x = Check.room("keep 1;");
        for (int c = 0; c < 24; c++) {
            Check.plain(x, 0, c < 1 ? 500 : 900, c < 1 ? 500 : 900, c < 1 ? 500 : 900,
                    c < 5 ? 500 : 900);
        }
        x.tell(0, 500, 500, 500, 0);
        // 24 times 1 of 24, three times
        due("19: numerator", x.byChance(0), 1);
        due("19: denominator", x.byChance(1), 576);
        x.tell(0, 500, 500, 500, 500);
        due("19: four MEASURES, numerator", x.byChance(0), 5);
        due("19: four MEASURES, denominator", x.byChance(1), 13824);
        x.tell(0, 900, 900, 900, 900);
        due("19: 23, 23, 23, 19 of 24, numerator", x.byChance(0), 23 * 23 * 23 * 19);
        due("19: 23, 23, 23, 19 of 24, denominator", x.byChance(1), 13824);
        x.day(1);
        x.out(23);
        due("19: of 23, numerator", x.byChance(0), 22 * 22 * 22 * 18);
        due("19: of 23, denominator", x.byChance(1), 23 * 23 * 23);
    }

    // Promise 20: "What MEASURE m of a CARD can be on a day (not ahead of that when it came): the
    // greatest; 0: not taken. BAD."
    private static void grownBounds() {
        Supplier<ElevenMeasures> busy = () -> {
            ElevenMeasures x = toldRoom();
            x.card(2, 1, 999, 1, 0, 60, 5);
            x.day(6);
            return x;
        };
        Twin.bounds("20: CARD", busy, 0, 3, (x, v) -> x.grown(v, 0, 9));
        Twin.bounds("20: MEASURE", busy, 0, 3, (x, v) -> x.grown(3, v, 9));
        Twin.bounds("20: day of one that came on day 0", busy, 0, 9999, (x, v) -> x.grown(0, 0, v));
        Twin.bounds("20: day of one that came on day 5", busy, 5, 9999, (x, v) -> x.grown(3, 0, v));
        Twin.bounds("20: day of an OUT one", busy, 0, 9999, (x, v) -> x.grown(2, 0, v));
        Twin.refused("20: nothing there yet", ElevenMeasures::new, x -> x.grown(0, 0, 0), BAD);
        ElevenMeasures last = Check.room("grow a 50;");
        last.day(9999);
        last.card(0, 1, 5, 0, 0, 0, 0);
        due("20: came on the last day", last.grown(0, 0, 9999), 5);
        due("20: the day ahead of it", last.grown(0, 0, 9998), BAD);
    }

    // Promise 20, Terms: "grow times the days since it came by 100, divided down, more (grow as on
    // that day)".
    private static void grownDays() {
        ElevenMeasures x = Check.room("grow a 1;grow b 50;grow c 0;grow d 3;from 50 grow a 50;"
                + "from 60 grow b 0;");
        x.card(0, 1, 100, 999, 300, 1, 0);
        x.card(0, 0, 100, 999, 300, 1, 0);
        x.card(0, 2, 100, 999, 300, 1, 0);
        int[][] rows = {{0, 0, 100}, {0, 49, 100}, {0, 50, 125}, {0, 9999, 5099}, {1, 1, 999},
            {1, 2, 1000}, {1, 3, 1000}, {1, 59, 1028}, {1, 60, 999}, {1, 9999, 999}, {2, 9999, 300},
            {3, 33, 1}, {3, 34, 2}, {3, 66, 2}, {3, 67, 3}, {3, 99, 3}, {3, 100, 4},
            {3, 9999, 300}};
        for (int[] row : rows) {
            due("20: MEASURE " + row[0] + " on day " + row[1], x.grown(0, row[0], row[1]), row[2]);
        }
        for (int m = 0; m < 4; m++) {
            due("20: a PLAIN one", x.grown(1, m, 9999), x.of(1, 2 + m));
            due("20: an OTHER one", x.grown(2, m, 9999), x.of(2, 2 + m));
        }
        x.anew(0, 0, 0);
        due("20: not taken", x.grown(0, 0, 9999), 0);
        x.anew(0, 0, 1);
        due("20: taken again", x.grown(0, 0, 50), 26);
        ElevenMeasures y = Check.room("grow a 1;");
        y.day(7);
        y.card(0, 1, 100, 0, 0, 0, 0);
        due("20: 99 days since it came", y.grown(0, 0, 106), 100);
        due("20: 100 days since it came", y.grown(0, 0, 107), 101);
    }

    // Promise 21: "BESIDE for a number of ones of PRINTS (0 to 10) ... BAD; STATE."
    private static void besideBounds() {
        Supplier<ElevenMeasures> told = BoundaryLookTest::toldRoom;
        Supplier<ElevenMeasures> untold = BoundaryLookTest::untoldRoom;
        Twin.bounds("21: ones", told, 0, 10, (x, v) -> x.beside(v, 0, 1));
        Twin.bounds("21: p", told, 0, 999, (x, v) -> x.beside(0, v, 0));
        Twin.bounds("21: what", told, 0, 3, (x, v) -> x.beside(0, 0, v));
        Twin.bounds("21: ones, BAD ahead of STATE", untold, 0, 10, (x, v) -> x.beside(v, 0, 1));
        Twin.bounds("21: p, BAD ahead of STATE", untold, 0, 999, (x, v) -> x.beside(0, v, 1));
        Twin.bounds("21: what, BAD ahead of STATE", untold, 0, 3, (x, v) -> x.beside(0, 0, v));
        for (int what = 0; what < 4; what++) {
            int asked = what;
            Twin.refused("21: no TELLING", untold, x -> x.beside(0, 0, asked), STATE);
            ElevenMeasures x = new ElevenMeasures();
            x.tell(0, 0, 0, 0, 0);
            due("21: no CARDS yet, what " + what, x.beside(0, 0, what), 0);
        }
    }

    // Promise 21, Terms: "PRINT DRAWERS: the number of ones of PRINTS (0 to 10)"; not OUT.
    private static void besideOnes() {
        ElevenMeasures x = Check.room("keep 1;");
        int[] prints = {0, 1, 512, 3, 7, 15, 31, 63, 127, 255, 511, 1022, 1023, 1023};
        int[] often = {1, 2, 1, 1, 1, 1, 1, 1, 1, 2, 2};
        for (int bits : prints) {
            x.card(0, 0, 500, 500, 500, 500, bits);
        }
        x.tell(0, 500, 500, 500, 500);
        for (int ones = 0; ones <= 10; ones++) {
            due("21: CARDS with " + ones + " ones", x.beside(ones, 999, 1), often[ones]);
            due("21: found with " + ones + " ones", x.beside(ones, 999, 3), often[ones]);
            due("21: by LOOK, whatever the ones are", x.beside(ones, 0, 0), 14);
        }
        x.day(1);
        x.out(13);
        x.out(0);
        due("21: OUT, 10 ones", x.beside(10, 0, 1), 1);
        due("21: OUT, no ones", x.beside(0, 0, 1), 0);
        due("21: OUT, by LOOK", x.beside(0, 0, 0), 12);
        due("21: OUT, found by prints", x.beside(10, 0, 3), 1);
        due("21: OUT, found by LOOK", x.beside(10, 0, 2), 12);
    }

    // Promise 21: "CARDS to turn by LOOK with p (what 0), by PRINTS (1), CARDS of MATCHES that are
    // found by LOOK (2), by PRINTS (3)".
    private static void besideFound() {
        ElevenMeasures x = Check.room("spread 0 4;edge a 8 9;");
        // DRAWER 4 by 7 of 8, 13 by 1 of 8; the third CARD can not be, the fourth can, in DRAWER 22
        x.card(0, 0, 4, 500, 500, 0, 3);
        x.card(0, 0, 8, 500, 500, 0, 3);
        x.card(0, 0, 4, 599, 500, 0, 3);
        x.card(0, 0, 12, 500, 500, 0, 5);
        x.card(0, 0, 0, 0, 0, 0, 1023);
        x.tell(0, 4, 500, 500, 0);
        int[][] rows = {{125, 2, 4, 1, 3}, {124, 4, 4, 3, 3}, {999, 2, 4, 1, 3}, {0, 4, 4, 3, 3}};
        for (int[] row : rows) {
            for (int what = 0; what < 4; what++) {
                due("21: p " + row[0] + ", " + what, x.beside(2, row[0], what), row[1 + what]);
            }
        }
        due("21: a MATCH in no DRAWER of LOOK", x.beside(10, 125, 3), 1);
        due("21: of one of ten, by LOOK", x.beside(10, 125, 2), 1);
    }
}
