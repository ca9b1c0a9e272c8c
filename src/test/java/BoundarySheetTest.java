import java.util.function.Supplier;

/** The boundary cases that promises 31 to 35 name, and "Terms" of them: sheets, counts. */
public final class BoundarySheetTest {
    private static final int BAD = -1, FULL = -3, NONE = -4;
    private static final int BYTES = 0, SHORTS = 1, INTS = 2;
    private static final int IS_NULL = 1, NO_INDEX = 2, NO_CAST = 3;

    private BoundarySheetTest() {
    }

    public static void main(String[] args) {
        sheetBounds();
        sheetSize();
        sheetAnew();
        layBounds();
        layCells();
        layLowestBits();
        laneEnds();
        readBounds();
        readNothing();
        readOfNothing();
        readCast();
        readIndex();
        readWholeAhead();
        readAboveLongest();
        readAsTold();
        readFull();
        readFirstMet();
        torn();
        countBounds();
        countNothing();
        countAll();
        Check.close();
    }

    private static void due(String what, long got, long want) {
        Check.due(what, got, want);
    }

    /** Two cards; SHEET 0 of SHORTS, 1 of BYTES, 2 of INTS with something in them, 3 nothing. */
    private static ElevenMeasures busyRoom() {
        ElevenMeasures x = Check.room("keep 5;spread 1 5;");
        x.card(0, 0, 331, 400, 700, 60, 3);
        x.card(1, 1, 335, 0, 701, 999, 1023);
        x.tell(1, 331, 400, 700, 0);
        x.hold(0);
        int[] sizes = {11, 4, 96};
        int[] lanes = {SHORTS, BYTES, INTS};
        for (int k = 0; k < 3; k++) {
            x.sheet(k, lanes[k], sizes[k]);
            for (int i = 0; i < 4; i++) {
                x.lay(k, i, 10 * k + i + 1);
            }
        }
        // the latest read() found CAST
        x.read(0, 0, BYTES, 0, 1);
        x.feed(0x6b65657020373b20L);
        return x;
    }

    /** An empty room with a SHEET 0 of so many CELLS, all of this value. */
    private static ElevenMeasures sheetRoom(int lane, int n, int v) {
        ElevenMeasures x = new ElevenMeasures();
        due("31: a SHEET of " + n, x.sheet(0, lane, n), 1);
        for (int i = 0; i < n; i++) {
            due("32: CELL " + i, x.lay(0, i, v), 1);
        }
        return x;
    }

    /** The MEASURES of a card. */
    private static void measuresAre(String what, ElevenMeasures x, int c, int... want) {
        for (int m = 0; m < 4; m++) {
            due(what + ", MEASURE " + m, x.of(c, 2 + m), want[m]);
        }
    }

    // Promise 31: "A SHEET is a new row of CELLS 0: 1. BAD: also n above 96; -10 - 4." Terms:
    // SHEETS 0 to 3, lanes 0 to 2, 0 to 96 CELLS, FAULT 4 SIZE (below 0).
    private static void sheetBounds() {
        Supplier<ElevenMeasures> busy = BoundarySheetTest::busyRoom;
        Twin.bounds("31: SHEET", busy, 0, 3, (x, v) -> x.sheet(v, 0, 5));
        Twin.bounds("31: lane", busy, 0, 2, (x, v) -> x.sheet(0, v, 5));
        int[] above = {97, 98, 1000, Integer.MAX_VALUE};
        int[] below = {-1, -2, -96, -97, Integer.MIN_VALUE};
        for (int k = 0; k < 4; k++) {
            int of = k;
            for (int n : above) {
                Twin.refused("31: SHEET " + k + " of " + n, busy, x -> x.sheet(of, 1, n), BAD);
            }
            for (int n : below) {
                Twin.refused("31: SHEET " + k + " of " + n, busy, x -> x.sheet(of, 1, n), -10 - 4);
                Twin.refused("31: BAD ahead of SIZE", busy, x -> x.sheet(of, 3, n), BAD);
            }
        }
        Twin.refused("31: BAD ahead of SIZE, SHEET", busy, x -> x.sheet(4, 0, -1), BAD);
        Twin.refused("31: SIZE of a new one", ElevenMeasures::new, x -> x.sheet(0, 0, -1), -14);
    }

    // Promise 31: 0 and 96 CELLS, in each lane.
    private static void sheetSize() {
        int[] sizes = {0, 1, 95, 96};
        for (int lane = 0; lane < 3; lane++) {
            for (int n : sizes) {
                ElevenMeasures x = new ElevenMeasures();
                due("31: " + n + " CELLS", x.sheet(0, lane, n), 1);
                due("35: " + n + " CELLS", x.count(11), n);
                due("32: the last", x.lay(0, n - 1, 1), n == 0 ? -12 : 1);
                due("32: the first beyond", x.lay(0, n, 1), -12);
                due("31: SHEET 1 has nothing still", x.lay(1, 0, 1), -11);
            }
        }
        ElevenMeasures x = new ElevenMeasures();
        for (int k = 0; k < 4; k++) {
            due("31: SHEET " + k, x.sheet(k, k % 3, 24 * k + 24), 1);
        }
        for (int k = 0; k < 4; k++) {
            due("31: its last CELL", x.lay(k, 24 * k + 23, 1), 1);
            due("31: no more", x.lay(k, 24 * k + 24, 1), -12);
        }
        due("35: SHEET 0 is asked", x.count(11), 24);
    }

    // Promise 31: "a new row of CELLS 0", whatever the SHEET was.
    private static void sheetAnew() {
        for (int lane = 0; lane < 3; lane++) {
            ElevenMeasures x = sheetRoom(INTS, 96, 77);
            due("31: anew", x.sheet(0, lane, 95), 1);
            due("35: so many CELLS", x.count(11), 95);
            due("33: its lane", x.read(0, 0, lane, 0, 23), 23);
            for (int c = 0; c < 23; c++) {
                measuresAre("31: CELLS 0 of " + c, x, c, 0, 0, 0, 0);
            }
            due("31: longer again", x.sheet(0, lane, 96), 1);
            due("33: the last four", x.read(0, 0, lane, 92, 1), 1);
            measuresAre("31: CELLS 0 again", x, 23, 0, 0, 0, 0);
        }
        ElevenMeasures x = sheetRoom(INTS, 4, 77);
        due("31: refused", x.sheet(0, BYTES, -1), -14);
        due("33: the old row is there", x.read(0, 0, INTS, 0, 1), 1);
        measuresAre("31: its CELLS", x, 0, 77, 77, 77, 77);
    }

    // Promise 32: "CELL i of a SHEET becomes v: 1. BAD: k; -10 less the FAULT: NULL, INDEX."
    private static void layBounds() {
        Supplier<ElevenMeasures> busy = BoundarySheetTest::busyRoom;
        Twin.bounds("32: SHEET", busy, 0, 3, (x, v) -> x.lay(v, 0, 5));
        int[] sizes = {11, 4, 96};
        for (int k = 0; k < 3; k++) {
            int of = k;
            int size = sizes[k];
            due("32: the first CELL", busyRoom().lay(k, 0, 5), 1);
            due("32: the last CELL", busyRoom().lay(k, size - 1, 5), 1);
            int[] beyond = {-1, size, size + 1, Integer.MIN_VALUE, Integer.MAX_VALUE};
            for (int i : beyond) {
                Twin.refused("32: CELL " + i + " of " + k, busy, x -> x.lay(of, i, 5), -10 - 2);
            }
        }
        int[] any = {0, -1, 96, Integer.MAX_VALUE};
        for (int i : any) {
            Twin.refused("32: NULL, ahead of INDEX", busy, x -> x.lay(3, i, 5), -10 - 1);
        }
        Twin.refused("32: BAD ahead of NULL", ElevenMeasures::new, x -> x.lay(4, 0, 5), BAD);
    }

    // Promise 32: each CELL is its own.
    private static void layCells() {
        for (int lane = 0; lane < 3; lane++) {
            ElevenMeasures x = new ElevenMeasures();
            x.sheet(0, lane, 96);
            x.sheet(1, lane, 96);
            for (int i = 0; i < 96; i++) {
                x.lay(0, i, 1 + i);
            }
            due("33: 24 CARDS", x.read(0, 0, lane, 0, 24), 24);
            for (int c = 0; c < 24; c++) {
                measuresAre("32: CELLS of " + c, x, c, 4 * c + 1, 4 * c + 2, 4 * c + 3, 4 * c + 4);
            }
            ElevenMeasures y = new ElevenMeasures();
            y.sheet(0, lane, 96);
            y.sheet(1, lane, 4);
            y.lay(0, 0, 5);
            y.lay(0, 95, 6);
            y.read(0, 1, lane, 0, 1);
            measuresAre("32: another SHEET stays", y, 0, 0, 0, 0, 0);
            y.read(0, 0, lane, 0, 24);
            due("33: 24 by what was laid are too many", y.count(0), 1);
            y.read(0, 0, lane, 0, 23);
            measuresAre("32: the first CELL", y, 1, 5, 0, 0, 0);
            measuresAre("32: the others", y, 23, 0, 0, 0, 0);
        }
    }

    /** What a read gives of a value that was laid: the measure, or -20. */
    private static int measureOf(int lane, int v) {
        ElevenMeasures x = sheetRoom(lane, 4, 0);
        due("32: laid", x.lay(0, 0, v), 1);
        int came = x.read(0, 0, lane, 0, 1);
        return came == 1 ? x.of(0, 2) : came;
    }

    // Promise 32: "becomes v (its lowest bits)"; promise 33: "one below 0 was not taken", -20 above
    // 999. BYTES have 8 bits, SHORTS 16, INTS 32.
    private static void layLowestBits() {
        int[][] bytes = {{0, 0}, {1, 1}, {127, 127}, {128, 0}, {129, 0}, {255, 0}, {256, 0},
            {257, 1}, {383, 127}, {384, 0}, {1000, 0}, {999, 0}, {-1, 0}, {-128, 0}, {-129, 127},
            {-255, 1}, {-256, 0}, {65536 + 127, 127}, {Integer.MAX_VALUE, 0}, {Integer.MIN_VALUE, 0},
            {Integer.MIN_VALUE + 127, 127}, {Integer.MAX_VALUE - 128, 127}};
        int[][] shorts = {{0, 0}, {127, 127}, {128, 128}, {255, 255}, {999, 999}, {1000, -20},
            {32767, -20}, {32768, 0}, {65535, 0}, {65536, 0}, {65537, 1}, {65536 + 999, 999},
            {65536 + 1000, -20}, {-1, 0}, {-32768, 0}, {-32769, -20}, {-65536, 0}, {-65535, 1},
            {-65536 + 999, 999}, {Integer.MAX_VALUE, 0}, {Integer.MIN_VALUE, 0},
            {Integer.MIN_VALUE + 999, 999}, {Integer.MIN_VALUE + 32767, -20}};
        int[][] ints = {{0, 0}, {127, 127}, {128, 128}, {999, 999}, {1000, -20}, {32768, -20},
            {65536, -20}, {65535, -20}, {1 << 24, -20}, {-1, 0}, {-32769, 0}, {-65535, 0},
            {Integer.MAX_VALUE, -20}, {Integer.MIN_VALUE, 0}, {Integer.MIN_VALUE + 999, 0}};
        int[][][] lanes = {bytes, shorts, ints};
        for (int lane = 0; lane < 3; lane++) {
            for (int[] row : lanes[lane]) {
                due("32: " + row[0] + " in lane " + lane, measureOf(lane, row[0]), row[1]);
            }
        }
    }

    // Promise 32, Terms: the lowest bits in each place of a row, at the ends of each lane.
    private static void laneEnds() {
        int[] lasts = {127, 999, 999};
        for (int lane = 0; lane < 3; lane++) {
            ElevenMeasures x = sheetRoom(lane, 96, lasts[lane]);
            due("33: all at the end", x.read(0, 0, lane, 0, 24), 24);
            for (int c = 0; c < 24; c++) {
                measuresAre("33: at the end", x, c, lasts[lane], lasts[lane], lasts[lane],
                        lasts[lane]);
            }
            ElevenMeasures y = sheetRoom(lane, 96, -1);
            due("33: none was taken", y.read(0, 0, lane, 0, 24), 24);
            for (int c = 0; c < 24; c++) {
                measuresAre("33: not taken", y, c, 0, 0, 0, 0);
            }
        }
    }

    // Promise 33: "BAD: hand, k, lane, n". Terms: HANDS 0 to 5, SHEETS 0 to 3, lanes 0 to 2; n is
    // 0 to 24.
    private static void readBounds() {
        Supplier<ElevenMeasures> busy = BoundarySheetTest::busyRoom;
        for (int n = 0; n < 2; n++) {
            int often = n;
            Twin.bounds("33: HAND, n " + n, busy, 0, 5, (x, v) -> x.read(v, 2, 2, 0, often));
            Twin.bounds("33: SHEET, n " + n, busy, 0, 3, (x, v) -> x.read(0, v, 2, 0, often));
            Twin.bounds("33: lane, n " + n, busy, 0, 2, (x, v) -> x.read(0, 2, v, 0, often));
        }
        Twin.bounds("33: n", busy, 0, 24, (x, v) -> x.read(0, 2, 2, 0, v));
        Twin.bounds("33: n of nothing", busy, 0, 24, (x, v) -> x.read(0, 3, 2, 0, v));
        Twin.bounds("33: n behind the CELLS", busy, 0, 24, (x, v) -> x.read(0, 2, 2, 96, v));
        Twin.refused("33: BAD ahead of -20", () -> sheetRoom(INTS, 4, 1000),
                x -> x.read(6, 0, INTS, 0, 1), BAD);
    }

    // Promise 33: "by n 0 nothing is asked of the machine: 0, no FAULT, whatever the SHEET is".
    private static void readNothing() {
        int[] froms = {0, -1, 96, Integer.MIN_VALUE, Integer.MAX_VALUE};
        for (int k = 0; k < 4; k++) {
            for (int lane = 0; lane < 3; lane++) {
                for (int f : froms) {
                    ElevenMeasures x = busyRoom();
                    due("34: CAST ahead of it", x.torn(), NO_CAST);
                    due("33: n 0 of " + k + " as " + lane + ", " + f, x.read(0, k, lane, f, 0), 0);
                    due("34: no FAULT", x.torn(), 0);
                    due("33: none came", x.count(0), 2);
                }
            }
        }
        ElevenMeasures x = sheetRoom(INTS, 96, 5);
        x.read(0, 0, INTS, 0, 24);
        due("33: n 0 of a full room", x.read(0, 0, INTS, 0, 0), 0);
        x.lay(0, 0, 1000);
        due("33: n 0 above 999", x.read(0, 0, INTS, 0, 0), 0);
    }

    // Promise 33, Terms: FAULT 1 NULL (nothing): ahead of what the lane or the CELLS would be.
    private static void readOfNothing() {
        int[] froms = {0, -1, 96, Integer.MAX_VALUE};
        for (int k = 0; k < 4; k++) {
            for (int lane = 0; lane < 3; lane++) {
                for (int f : froms) {
                    ElevenMeasures x = new ElevenMeasures();
                    due("33: of nothing", x.read(5, k, lane, f, 24), 0);
                    due("34: NULL", x.torn(), IS_NULL);
                    due("33: none came", x.count(0), 0);
                }
            }
        }
        ElevenMeasures x = new ElevenMeasures();
        x.sheet(0, 0, -1);
        due("33: nothing, for it was below 0", x.read(0, 0, 0, 0, 1), 0);
        due("34: NULL still", x.torn(), IS_NULL);
    }

    // Promise 33, Terms: FAULT 3 CAST (another lane): ahead of what the CELLS would be.
    private static void readCast() {
        for (int lane = 0; lane < 3; lane++) {
            for (int as = 0; as < 3; as++) {
                ElevenMeasures x = sheetRoom(lane, 4, 7);
                due("33: lane " + lane + " as " + as, x.read(0, 0, as, 0, 1), lane == as ? 1 : 0);
                due("34: its FAULT", x.torn(), lane == as ? 0 : NO_CAST);
                due("33: so many", x.count(0), lane == as ? 1 : 0);
                ElevenMeasures y = sheetRoom(lane, 0, 0);
                due("33: no CELLS, lane " + lane + " as " + as, y.read(0, 0, as, 0, 1), 0);
                due("34: INDEX only of the same lane", y.torn(), lane == as ? NO_INDEX : NO_CAST);
            }
        }
        ElevenMeasures x = sheetRoom(INTS, 4, 1000);
        due("33: CAST ahead of -20", x.read(0, 0, SHORTS, 0, 1), 0);
        due("34: CAST", x.torn(), NO_CAST);
    }

    // Promise 33, Terms: FAULT 2 INDEX: CELLS are 0 to one less than there are.
    private static void readIndex() {
        int[] refused = {-1, -2, -4, -96, 1, 2, 4, 5, Integer.MIN_VALUE, Integer.MAX_VALUE,
            Integer.MAX_VALUE - 3, Integer.MIN_VALUE + 1};
        for (int f : refused) {
            ElevenMeasures x = sheetRoom(BYTES, 4, 7);
            due("33: from " + f + " of 4", x.read(0, 0, BYTES, f, 1), 0);
            due("34: INDEX", x.torn(), NO_INDEX);
            due("33: none came", x.count(0), 0);
        }
        int[][] rows = {{92, 1, 1, 0}, {93, 1, 0, NO_INDEX}, {95, 1, 0, NO_INDEX},
            {96, 1, 0, NO_INDEX}, {0, 24, 24, 0}, {1, 24, 23, NO_INDEX}, {3, 23, 23, 0},
            {4, 23, 23, 0}, {5, 23, 22, NO_INDEX}, {-1, 24, 0, NO_INDEX}, {-4, 2, 0, NO_INDEX}};
        for (int[] row : rows) {
            ElevenMeasures x = sheetRoom(SHORTS, 96, 7);
            due("33: from " + row[0] + ", " + row[1], x.read(0, 0, SHORTS, row[0], row[1]), row[2]);
            due("34: of it", x.torn(), row[3]);
            due("33: so many", x.count(0), row[2]);
        }
    }

    // Promise 33: "What the machine refuses: those that were whole ahead come".
    private static void readWholeAhead() {
        for (int n = 0; n < 12; n++) {
            ElevenMeasures x = new ElevenMeasures();
            x.sheet(0, INTS, n);
            for (int i = 0; i < n; i++) {
                x.lay(0, i, 100 + i);
            }
            due("33: 3 of " + n + " CELLS", x.read(2, 0, INTS, 0, 3), n / 4);
            due("34: INDEX of " + n, x.torn(), NO_INDEX);
            due("33: whole ones of " + n, x.count(0), n / 4);
            for (int c = 0; c < n / 4; c++) {
                measuresAre("33: whole", x, c, 100 + 4 * c, 101 + 4 * c, 102 + 4 * c, 103 + 4 * c);
            }
        }
    }

    // Promise 33: "-20 less i: CELL f + i is above 999 (i from 0 on) ...: then none came".
    private static void readAboveLongest() {
        int[] above = {1000, 1001, 32767};
        for (int i = 0; i < 96; i++) {
            int at = i;
            int v = above[i % 3];
            Supplier<ElevenMeasures> made = () -> {
                ElevenMeasures x = new ElevenMeasures();
                x.sheet(0, SHORTS, 96);
                x.lay(0, at, v);
                return x;
            };
            due("33: CELL " + i, made.get().read(0, 0, SHORTS, 0, 24), -20 - i);
            if (i % 19 == 0) {
                Twin.refused("33: CELL " + i, made, x -> x.read(0, 0, SHORTS, 0, 24), -20 - i);
            }
            ElevenMeasures x = made.get();
            due("33: just ahead of " + i, x.read(0, 0, SHORTS, 0, i / 4), i / 4);
            ElevenMeasures y = made.get();
            if (i > 0 && i < 93) {
                due("33: from it on", y.read(0, 0, SHORTS, i, 1), -20);
                due("33: from the one ahead on", y.read(0, 0, SHORTS, i - 1, 1), -21);
                due("33: from behind it on", y.read(0, 0, SHORTS, i + 1, 1), i < 92 ? 1 : 0);
            }
        }
        ElevenMeasures x = sheetRoom(INTS, 8, 999);
        due("33: 999 is no more than 999", x.read(0, 0, INTS, 0, 2), 2);
        x.lay(0, 5, 1000);
        x.lay(0, 6, 2000);
        due("33: the first of them", x.read(0, 0, INTS, 0, 2), -25);
        due("33: none came of the whole ahead", x.count(0), 2);
        due("33: from CELL 2 on", x.read(0, 0, INTS, 2, 1), -23);
    }

    // Promise 33: "CARDS (PLAIN, PRINTS 0) by a HAND ...; one below 0 was not taken: how many
    // came".
    private static void readAsTold() {
        ElevenMeasures x = Check.room("from 9 edge a 1 2;");
        x.day(9);
        Check.plain(x, 0, 5, 5, 5, 5);
        x.sheet(3, INTS, 9);
        int[] cells = {7, 1, 999, -1, 0, 2, -32768, Integer.MIN_VALUE, 998};
        for (int i = 0; i < cells.length; i++) {
            x.lay(3, i, cells[i]);
        }
        due("33: two", x.read(5, 3, INTS, 1, 2), 2);
        int[][] want = {{5, 0, 1, 999, 0, 0, 0, 9, 9 + 6 + 1},
            {5, 0, 2, 0, 0, 998, 0, 9, 18 + 3 + 1}};
        for (int c = 0; c < 2; c++) {
            for (int what = 0; what < 9; what++) {
                due("33: CARD " + (1 + c) + ", " + what, x.of(1 + c, what), want[c][what]);
            }
            due("33: told as any CARD", x.known(1 + c, 1, 9), want[c][3]);
            due("33: not ahead of the day when it came", x.known(1 + c, 1, 8), 0);
        }
    }

    // Promise 33: "FULL: more than 24 CARDS: then none came".
    private static void readFull() {
        for (int there = 0; there <= 24; there++) {
            int so = there;
            Supplier<ElevenMeasures> made = () -> {
                ElevenMeasures x = new ElevenMeasures();
                for (int c = 0; c < so; c++) {
                    Check.plain(x, 0, 1, 1, 1, 1);
                }
                x.sheet(0, SHORTS, 96);
                return x;
            };
            int left = 24 - there;
            ElevenMeasures x = made.get();
            due("33: as many as there is room for", x.read(0, 0, SHORTS, 0, left), left);
            due("33: 24 then", x.count(0), 24);
            due("33: one more", x.read(0, 0, SHORTS, 0, 1), FULL);
            due("33: 24 still", x.count(0), 24);
            if (there > 0) {
                due("33: one too many", made.get().read(0, 0, SHORTS, 0, left + 1), FULL);
            }
            if (there % 8 == 1) {
                Twin.refused("33: one too many", made, y -> y.read(0, 0, SHORTS, 0, left + 1),
                        FULL);
                Twin.refused("33: 24 too many", made, y -> y.read(0, 0, SHORTS, 0, 24), FULL);
            }
        }
    }

    // Promise 33: "the first met": CELLS are read one by one, a CARD comes when it is whole.
    private static void readFirstMet() {
        ElevenMeasures x = sheetRoom(SHORTS, 12, 5);
        for (int c = 0; c < 23; c++) {
            Check.plain(x, 0, 1, 1, 1, 1);
        }
        x.lay(0, 8, 1000);
        due("33: the 25th is whole ahead of CELL 8", x.read(0, 0, SHORTS, 0, 3), FULL);
        due("33: CELL 8 ahead of the 25th", x.read(0, 0, SHORTS, 4, 2), -24);
        due("33: a CELL ahead of INDEX", x.read(0, 0, SHORTS, 8, 2), -20);
        x.lay(0, 8, 5);
        due("33: INDEX ahead of the 25th", x.read(0, 0, SHORTS, 6, 2), 1);
        due("34: INDEX", x.torn(), NO_INDEX);
        due("33: the 24th came", x.count(0), 24);
        due("33: no CARD is whole", x.read(0, 0, SHORTS, 9, 1), 0);
        due("33: the 25th", x.read(0, 0, SHORTS, 8, 1), FULL);
        due("33: INDEX first of all", x.read(0, 0, SHORTS, -1, 24), 0);
        ElevenMeasures y = sheetRoom(INTS, 3, 5);
        y.lay(0, 2, 1000);
        due("33: a CELL ahead of INDEX in one CARD", y.read(0, 0, INTS, 0, 1), -22);
        y.lay(0, 2, 999);
        due("33: then INDEX", y.read(0, 0, INTS, 0, 1), 0);
    }

    // Promise 34: "The FAULT of the latest read() that answered 0 or more; 0 (one that is refused
    // leaves it)."
    private static void torn() {
        due("34: no read() yet", new ElevenMeasures().torn(), 0);
        ElevenMeasures x = sheetRoom(SHORTS, 96, 5);
        x.lay(0, 95, 1000);
        int[] lanes = {SHORTS, BYTES, SHORTS};
        int[] sheets = {0, 0, 1};
        int[] froms = {96, 0, 0};
        int[] faults = {NO_INDEX, NO_CAST, IS_NULL};
        for (int i = 0; i < 3; i++) {
            due("33: a FAULT", x.read(0, sheets[i], lanes[i], froms[i], 1), 0);
            due("34: it", x.torn(), faults[i]);
            due("34: again", x.torn(), faults[i]);
            due("33: BAD", x.read(0, 0, SHORTS, 0, 25), BAD);
            due("34: BAD leaves it", x.torn(), faults[i]);
            due("33: above 999", x.read(0, 0, SHORTS, 92, 1), -23);
            due("34: above 999 leaves it", x.torn(), faults[i]);
            due("32: lay() finds INDEX", x.lay(0, 96, 1), -12);
            due("32: lay() finds NULL", x.lay(3, 0, 1), -11);
            due("31: sheet() finds SIZE", x.sheet(0, 0, -1), -14);
            due("34: they leave it", x.torn(), faults[i]);
        }
        due("33: whole", x.read(0, 0, SHORTS, 0, 23), 23);
        due("34: none", x.torn(), 0);
        due("33: INDEX with one whole", x.read(0, 0, SHORTS, 96, 1), 0);
        due("33: FULL", x.read(0, 0, SHORTS, 0, 2), FULL);
        due("34: FULL leaves it", x.torn(), NO_INDEX);
        due("33: n 0", x.read(0, 0, SHORTS, 0, 0), 0);
        due("34: none by n 0", x.torn(), 0);
        due("33: FULL again", x.read(0, 0, SHORTS, 0, 2), FULL);
        due("34: FULL leaves none", x.torn(), 0);
        ElevenMeasures y = sheetRoom(INTS, 7, 5);
        due("33: one whole", y.read(0, 0, INTS, 0, 2), 1);
        due("34: answered 1, with a FAULT", y.torn(), NO_INDEX);
    }

    // Promise 35: "How many: 0 CARDS, ... 11 CELLS of SHEET 0 (NONE: nothing). BAD."
    private static void countBounds() {
        Twin.bounds("35: what", BoundarySheetTest::busyRoom, 0, 11, (x, v) -> x.count(v));
        Twin.bounds("35: what, nothing there yet,", ElevenMeasures::new, 0, 11,
                (x, v) -> x.count(v));
    }

    private static void countNothing() {
        ElevenMeasures x = new ElevenMeasures();
        for (int what = 0; what < 12; what++) {
            due("35: nothing yet, " + what, x.count(what), what == 11 ? NONE : 0);
        }
        x.sheet(1, 0, 5);
        due("35: SHEET 0 has nothing still", x.count(11), NONE);
        x.sheet(0, 0, -1);
        due("35: nothing by SIZE", x.count(11), NONE);
        x.sheet(0, 0, 0);
        due("35: a row without CELLS", x.count(11), 0);
    }

    // Promise 35: each number as great as there is room for.
    private static void countAll() {
        ElevenMeasures x = Check.room("keep 1;from 1 edge a 1 2;");
        for (int c = 0; c < 24; c++) {
            Check.plain(x, 0, 100, 400, 400, 0);
            due("35: none lies elsewhere", x.count(3), 0);
        }
        x.tell(0, 100, 400, 400, 0);
        for (int h = 0; h < 12; h++) {
            x.hold(h);
            x.wrong(h);
        }
        for (int i = 0; i < 40; i++) {
            x.anew(i % 24, 3, i);
        }
        StringBuilder sixteen = new StringBuilder("keep1;other1;from1edge a1 2;");
        for (int i = 3; i < 16; i++) {
            sixteen.append("from").append(i).append("keep2;");
        }
        due("5: sixteen lines", Check.text(x, sixteen.toString()), 16);
        for (int i = 0; i < 30; i++) {
            x.feed(0);
        }
        x.sheet(0, INTS, 96);
        due("35: none is DUE", x.count(2), 0);
        x.day(1);
        int[] want = {24, 0, 24, 24, 16, 40, 12, 12, 0, 1, 240, 96};
        for (int what = 0; what < 12; what++) {
            due("35: all, " + what, x.count(what), want[what]);
        }
        for (int c = 0; c < 24; c++) {
            x.out(c);
            due("35: OUT", x.count(1), c + 1);
            due("35: DUE that are not OUT", x.count(2), 23 - c);
            due("35: FILED in another DRAWER, OUT ones are in none", x.count(3), 23 - c);
        }
        x.day(9999);
        due("35: the last day", x.count(9), 9999);
        x.bar(0, 23, true);
        due("35: a BAR between OUT ones", x.count(8), 1);
        x.end(0);
        due("35: no bytes", x.count(10), 0);
    }
}
