import java.util.function.Supplier;

/** The boundary cases that promises 8 to 14 name, and "Terms" of them: the cards. */
public final class BoundaryCardTest {
    private static final int BAD = -1, STATE = -2, FULL = -3, NONE = -4;

    private BoundaryCardTest() {
    }

    public static void main(String[] args) {
        cardBounds();
        cardRoom();
        cardFirstThatFits();
        thirds();
        drawersOfCards();
        of();
        ofNumbers();
        due();
        dueFarDays();
        spread();
        anew();
        anewRoom();
        anewRoomOfAll();
        known();
        knownOnTheDayItCame();
        file();
        filedUntilFiledAnew();
        out();
        outChangesTheRest();
        drawer();
        drawerOfAll();
        Check.close();
    }

    private static void due(String what, long got, long want) {
        Check.due(what, got, want);
    }

    /** Three cards of the three kinds, the third out, the second told anew and barred. */
    private static ElevenMeasures busyRoom() {
        ElevenMeasures x = Check.room("keep 5;from 5 edge a 50 60;spread 1 5;other 7;grow a 9;");
        x.card(0, 0, 100, 400, 700, 0, 3);
        x.card(1, 1, 101, 0, 701, 999, 1023);
        x.card(5, 2, 999, 1, 0, 60, 0);
        x.day(5);
        x.out(2);
        x.anew(1, 3, 998);
        x.bar(0, 1, true);
        x.tell(1, 100, 400, 700, 0);
        x.hold(0);
        x.sheet(1, 0, 4);
        x.feed(0x6b65657020373b20L);
        return x;
    }

    private static ElevenMeasures fullRoom() {
        ElevenMeasures x = new ElevenMeasures();
        for (int c = 0; c < 24; c++) {
            x.card(c % 6, c % 3, 100 + c, 400, 700, 60, c);
        }
        x.tell(0, 100, 400, 700, 60);
        return x;
    }

    // Promise 8: "A CARD, FILED: its number. BAD". Terms: HANDS 0 to 5, KIND 0 to 2, MEASURES 1 to
    // 999 or not taken (0), PRINTS (bits of 10 fingers).
    private static void cardBounds() {
        Supplier<ElevenMeasures> made = BoundaryCardTest::busyRoom;
        Twin.bounds("8: HAND", made, 0, 5, (x, v) -> x.card(v, 0, 1, 1, 1, 1, 0));
        Twin.bounds("8: KIND", made, 0, 2, (x, v) -> x.card(0, v, 1, 1, 1, 1, 0));
        Twin.bounds("8: MEASURE 0", made, 0, 999, (x, v) -> x.card(0, 0, v, 1, 1, 1, 0));
        Twin.bounds("8: MEASURE 1", made, 0, 999, (x, v) -> x.card(0, 0, 1, v, 1, 1, 0));
        Twin.bounds("8: MEASURE 2", made, 0, 999, (x, v) -> x.card(0, 0, 1, 1, v, 1, 0));
        Twin.bounds("8: MEASURE 3", made, 0, 999, (x, v) -> x.card(0, 0, 1, 1, 1, v, 0));
        Twin.bounds("8: PRINTS", made, 0, 1023, (x, v) -> x.card(0, 0, 1, 1, 1, 1, v));
        int[][] ends = {{0, 0, 0, 0, 0, 0, 0}, {5, 2, 999, 999, 999, 999, 1023},
            {0, 1, 1, 0, 999, 0, 512}, {5, 0, 0, 999, 0, 1, 1}};
        for (int[] e : ends) {
            ElevenMeasures x = new ElevenMeasures();
            x.day(9999);
            due("8: the first", x.card(e[0], e[1], e[2], e[3], e[4], e[5], e[6]), 0);
            for (int what = 0; what < 7; what++) {
                due("9: as told, " + what, x.of(0, what), e[what]);
            }
            due("9: it came on the last day", x.of(0, 7), 9999);
        }
    }

    // Promise 8, Terms: "CARDS (24) are numbered as they come"; "FULL".
    private static void cardRoom() {
        ElevenMeasures x = new ElevenMeasures();
        for (int c = 0; c < 24; c++) {
            due("8: as they come", x.card(c % 6, 0, 1 + c, 1, 1, 1, 0), c);
            due("35: so many", x.count(0), c + 1);
            due("9: the next is none yet", x.of(c + 1, 0), BAD);
        }
        due("8: the 25th", x.card(0, 0, 1, 1, 1, 1, 0), FULL);
        due("8: 24 stay", x.count(0), 24);
        due("9: the last of them", x.of(23, 2), 24);
        Twin.refused("8: the 25th", BoundaryCardTest::fullRoom,
                y -> y.card(0, 0, 500, 500, 500, 500, 5), FULL);
    }

    // Terms: "BAD ..., STATE ..., FULL ..., NONE ..., the first that fits"; an OUT card is a CARD.
    private static void cardFirstThatFits() {
        Twin.refused("8: BAD ahead of FULL", BoundaryCardTest::fullRoom,
                x -> x.card(6, 0, 1, 1, 1, 1, 0), BAD);
        Twin.refused("8: BAD ahead of FULL, PRINTS", BoundaryCardTest::fullRoom,
                x -> x.card(0, 0, 1, 1, 1, 1, 1024), BAD);
        ElevenMeasures x = Check.room("keep 1;");
        for (int c = 0; c < 24; c++) {
            Check.plain(x, 0, 1, 1, 1, 1);
        }
        x.day(1);
        due("13: one goes out", x.out(0), 1);
        due("8: no room by an OUT one", Check.plain(x, 0, 1, 1, 1, 1), FULL);
    }

    // Promises 8, 9, 15, Terms: "THIRD ...: 0 below the first edge, 2 from the second edge on, else
    // 1; not taken: 1. DRAWER: 9 times THIRD of MEASURE 0, 3 times that of 1, that of 2."
    private static void thirds() {
        int[][] edges = {{333, 667}, {1, 2}, {1, 999}, {998, 999}, {500, 501}};
        int[] times = {9, 3, 1, 0};
        for (int[] pair : edges) {
            String rest = pair[0] + " " + pair[1] + ";";
            ElevenMeasures x = Check.room("edge a " + rest + "edge b " + rest + "edge c " + rest
                    + "edge d " + rest);
            int[] lengths = {0, 1, 2, pair[0] - 1, pair[0], pair[1] - 1, pair[1], 998, 999};
            for (int m = 0; m < 4; m++) {
                for (int v : lengths) {
                    int third = v == 0 ? 1 : v < pair[0] ? 0 : v < pair[1] ? 1 : 2;
                    int[] t = new int[4];
                    t[m] = v;
                    due("15: " + v + " of MEASURE " + m + " by " + rest,
                            x.tell(0, t[0], t[1], t[2], t[3]), 13 + times[m] * (third - 1));
                }
            }
        }
        int[] ends = {332, 333, 667};
        ElevenMeasures x = new ElevenMeasures();
        for (int d = 0; d < 27; d++) {
            due("15: DRAWER " + d, x.tell(0, ends[d / 9], ends[d / 3 % 3], ends[d % 3], 0), d);
        }
        Check.text(x, "edge a 10 20;edge b 30 40;edge c 50 60;edge d 70 80;");
        int[][] rows = {{9, 29, 49, 0}, {10, 30, 50, 13}, {19, 39, 59, 13}, {20, 40, 60, 26},
            {20, 39, 49, 21}, {9, 30, 60, 5}, {19, 40, 49, 15}};
        for (int[] row : rows) {
            due("15: each MEASURE by its edges", x.tell(0, row[0], row[1], row[2], 75), row[3]);
        }
    }

    // Promises 8, 9: a CARD is FILED by its MEASURES and the edges of the day when it came.
    private static void drawersOfCards() {
        int[] ends = {332, 333, 667};
        for (int half = 0; half < 2; half++) {
            ElevenMeasures x = new ElevenMeasures();
            for (int c = 0; c < 14; c++) {
                int d = 13 * half + c;
                Check.plain(x, 0, ends[d / 9], ends[d / 3 % 3], ends[d % 3], 999);
                due("9: FILED", x.of(c, 8), d);
                due("9: by its MEASURES", x.of(c, 9), d);
                due("14: one in it", x.drawer(d, 1), 1 << c);
            }
        }
        ElevenMeasures x = Check.room("from 1 edge a 1 2;from 2 edge a 998 999;");
        int[] want = {9, 18, 0};
        for (int day = 0; day < 3; day++) {
            x.day(day);
            Check.plain(x, 0, 400, 400, 400, 0);
            due("9: FILED on day " + day, x.of(day, 8), want[day] + 4);
            for (int c = 0; c <= day; c++) {
                due("9: stays where it was", x.of(c, 8), want[c] + 4);
                due("9: by the edges of THE DAY", x.of(c, 9), want[day] + 4);
            }
        }
    }

    // Promise 9: "Of a CARD: 0 HAND, ... 13 how often it was told anew. BAD."
    private static void of() {
        Supplier<ElevenMeasures> busy = BoundaryCardTest::busyRoom;
        Twin.bounds("9: what", busy, 0, 13, (x, v) -> x.of(0, v));
        Twin.bounds("9: what of an OUT one", busy, 0, 13, (x, v) -> x.of(2, v));
        Twin.bounds("9: CARD", busy, 0, 2, (x, v) -> x.of(v, 0));
        Twin.bounds("9: CARD of 24", BoundaryCardTest::fullRoom, 0, 23, (x, v) -> x.of(v, 13));
        for (int what = 0; what < 14; what++) {
            due("9: nothing there yet, " + what, new ElevenMeasures().of(0, what), BAD);
        }
    }

    // Promise 9, of each what: also of one that is OUT.
    private static void ofNumbers() {
        ElevenMeasures x = busyRoom();
        int[][] rows = {{0, 0, 100, 400, 700, 0, 3, 0, 5, 23, 0, 1, 3, 0},
            {1, 1, 101, 0, 701, 998, 1023, 0, 5, 23, 0, 1, 5, 1},
            {5, 2, 999, 1, 0, 60, 0, 0, NONE, 19, 1, 1, 10, 0}};
        for (int c = 0; c < rows.length; c++) {
            for (int what = 0; what < 14; what++) {
                due("9: of " + c + ", " + what, x.of(c, what), rows[c][what]);
            }
        }
    }

    // Promises 9, 13, 35, Terms: "It is DUE to be OUT, when keep days have gone since it came."
    private static void due() {
        int[] keeps = {1, 2, 10, 9997};
        for (int keep : keeps) {
            ElevenMeasures x = Check.room("keep " + keep + ";");
            x.day(1);
            Check.plain(x, 0, 1, 1, 1, 1);
            due("9: on the day when it came, keep " + keep, x.of(0, 11), 0);
            x.day(keep);
            due("9: the day ahead, keep " + keep, x.of(0, 11), 0);
            due("35: none is DUE", x.count(2), 0);
            due("13: not DUE", x.out(0), STATE);
            x.day(keep + 1);
            due("9: keep days gone, " + keep, x.of(0, 11), 1);
            due("35: one is DUE", x.count(2), 1);
            due("13: DUE", x.out(0), 1);
            due("35: DUE that are not OUT", x.count(2), 0);
            due("35: OUT", x.count(1), 1);
            Check.plain(x, 0, 1, 1, 1, 1);
            x.day(9999);
            due("9: more days gone, " + keep, x.of(0, 11), 1);
            due("9: of the younger one", x.of(1, 11), keep < 9997 ? 1 : 0);
        }
    }

    // Promise 9, Terms: keep 9999 if none is told, THE DAY 9999 at most; keep as on THE DAY.
    private static void dueFarDays() {
        ElevenMeasures x = new ElevenMeasures();
        Check.plain(x, 0, 1, 1, 1, 1);
        x.day(1);
        Check.plain(x, 0, 1, 1, 1, 1);
        x.day(9998);
        due("9: 9998 days", x.of(0, 11), 0);
        x.day(9999);
        due("9: 9999 days", x.of(0, 11), 1);
        due("9: 9998 days on the last one", x.of(1, 11), 0);
        due("13: 9999 days", x.out(0), 1);
        due("13: 9998 days", x.out(1), STATE);
        ElevenMeasures y = Check.room("keep 3;from 4 keep 6;");
        Check.plain(y, 0, 1, 1, 1, 1);
        y.day(3);
        due("9: by the keep of that day", y.of(0, 11), 1);
        y.day(4);
        due("9: by that of the next", y.of(0, 11), 0);
        y.day(6);
        due("9: when it is over", y.of(0, 11), 1);
    }

    // Promise 9, Terms: "SPREAD of a CARD: that of its HAND, on THE DAY, more by other, if it is
    // OTHER".
    private static void spread() {
        ElevenMeasures x = Check.room("spread 0 0;other 0;spread 5 20;from 2 other 20;"
                + "from 3 spread 0 20;from 3 spread 5 0;");
        int[][] cards = {{0, 0}, {0, 2}, {5, 0}, {5, 2}, {5, 1}, {3, 2}};
        for (int[] card : cards) {
            x.card(card[0], card[1], 1, 1, 1, 1, 0);
        }
        int[][] want = {{0, 0, 20, 20, 20, 3}, {0, 0, 20, 20, 20, 3}, {0, 20, 20, 40, 20, 23},
            {20, 40, 0, 20, 0, 23}};
        for (int day = 0; day < 4; day++) {
            x.day(day);
            for (int c = 0; c < cards.length; c++) {
                due("9: SPREAD of " + c + " on day " + day, x.of(c, 12), want[day][c]);
            }
        }
    }

    // Promise 10: "A MEASURE is told anew: what it was. BAD".
    private static void anew() {
        Supplier<ElevenMeasures> busy = BoundaryCardTest::busyRoom;
        Twin.bounds("10: CARD", busy, 0, 2, (x, v) -> x.anew(v, 0, 5));
        Twin.bounds("10: MEASURE", busy, 0, 3, (x, v) -> x.anew(0, v, 5));
        Twin.bounds("10: the new one", busy, 0, 999, (x, v) -> x.anew(0, 0, v));
        Twin.bounds("10: the new one of an OUT one", busy, 0, 999, (x, v) -> x.anew(2, 3, v));
        Twin.refused("10: nothing there yet", ElevenMeasures::new, x -> x.anew(0, 0, 5), BAD);
        ElevenMeasures x = busyRoom();
        due("10: it was not taken", x.anew(0, 3, 999), 0);
        due("10: it was 999", x.anew(0, 3, 1), 999);
        due("10: it was 1", x.anew(0, 3, 0), 1);
        due("10: it was not taken again", x.anew(0, 3, 0), 0);
        due("9: not taken", x.of(0, 5), 0);
        due("9: four times", x.of(0, 13), 4);
        due("35: five in all", x.count(5), 5);
        due("9: another MEASURE stays", x.of(0, 4), 700);
        due("9: another CARD stays", x.of(1, 5), 998);
    }

    // Promise 10, Terms: "(40 times in all)"; "FULL: 40".
    private static void anewRoom() {
        Supplier<ElevenMeasures> forty = () -> {
            ElevenMeasures x = busyRoom();
            for (int i = 1; i < 40; i++) {
                due("10: time " + i, x.anew(i % 3, 2, i), i > 3 ? i - 3 : i == 1 ? 701 : i == 2
                        ? 0 : 700);
            }
            return x;
        };
        ElevenMeasures x = forty.get();
        due("35: forty", x.count(5), 40);
        due("10: one more", x.anew(0, 0, 5), FULL);
        due("9: it is as it was", x.of(0, 2), 100);
        due("10: one more of another", x.anew(2, 3, 5), FULL);
        due("10: BAD ahead of FULL", x.anew(0, 4, 5), BAD);
        due("10: BAD ahead of FULL, above", x.anew(0, 0, 1000), BAD);
        due("35: forty still", x.count(5), 40);
        x.day(6);
        due("10: not on another day", x.anew(0, 0, 5), FULL);
        Twin.refused("10: the 41st", forty, y -> y.anew(1, 1, 5), FULL);
    }

    // Promise 10, Terms: 40 in all, by one CARD or by many.
    private static void anewRoomOfAll() {
        ElevenMeasures x = fullRoom();
        for (int i = 0; i < 40; i++) {
            int was = i < 24 ? 60 : i;
            due("10: CARD " + i % 24, x.anew(i % 24, 3, i % 24 + 24), was);
            due("9: told so often", x.of(i % 24, 13), 1 + i / 24);
        }
        due("10: one more", x.anew(23, 0, 5), FULL);
        ElevenMeasures y = new ElevenMeasures();
        Check.plain(y, 0, 0, 1, 1, 1);
        for (int i = 0; i < 40; i++) {
            due("10: one CARD, time " + i, y.anew(0, 0, i + 1), i);
        }
        due("10: one CARD, once more", y.anew(0, 0, 41), FULL);
        due("9: forty of one", y.of(0, 13), 40);
        due("11: the fortieth is known", y.known(0, 0, 0), 40);
    }

    // Promise 11: "A MEASURE AS KNOWN on a day (0 to 9999). BAD."
    private static void known() {
        Supplier<ElevenMeasures> busy = BoundaryCardTest::busyRoom;
        Twin.bounds("11: CARD", busy, 0, 2, (x, v) -> x.known(v, 0, 5));
        Twin.bounds("11: MEASURE", busy, 0, 3, (x, v) -> x.known(0, v, 5));
        Twin.bounds("11: day", busy, 0, 9999, (x, v) -> x.known(0, 0, v));
        Twin.refused("11: nothing there yet", ElevenMeasures::new, x -> x.known(0, 0, 0), BAD);
        ElevenMeasures x = new ElevenMeasures();
        x.day(7);
        Check.plain(x, 0, 100, 200, 300, 400);
        x.day(9);
        x.anew(0, 2, 301);
        x.day(9999);
        x.anew(0, 2, 302);
        int[][] rows = {{0, 0}, {6, 0}, {7, 300}, {8, 300}, {9, 301}, {9998, 301}, {9999, 302}};
        for (int[] row : rows) {
            due("11: on day " + row[0], x.known(0, 2, row[0]), row[1]);
            due("11: MEASURE 3 on day " + row[0], x.known(0, 3, row[0]), row[0] < 7 ? 0 : 400);
        }
        Check.plain(x, 0, 7, 7, 7, 7);
        x.anew(1, 3, 8);
        due("11: another CARD is told anew", x.known(1, 3, 9999), 8);
        due("11: this one is not", x.known(0, 3, 9999), 400);
        due("11: another one came later", x.known(1, 2, 9998), 0);
    }

    // Promise 11, Terms: "what was told last up to it (0 ahead of the day when the CARD came)".
    private static void knownOnTheDayItCame() {
        ElevenMeasures x = new ElevenMeasures();
        x.day(3);
        Check.plain(x, 0, 100, 0, 0, 0);
        due("11: told when it came", x.known(0, 0, 3), 100);
        x.anew(0, 0, 101);
        due("11: told anew on that day", x.known(0, 0, 3), 101);
        x.anew(0, 0, 102);
        due("11: told last on that day", x.known(0, 0, 3), 102);
        due("11: days to come", x.known(0, 0, 9999), 102);
        due("11: ahead of it", x.known(0, 0, 2), 0);
        x.day(4);
        x.anew(0, 0, 0);
        due("11: not taken from then on", x.known(0, 0, 4), 0);
        due("11: told last up to the day ahead", x.known(0, 0, 3), 102);
        x.day(5);
        x.anew(0, 0, 103);
        due("11: taken again", x.known(0, 0, 5), 103);
        due("11: not taken in between", x.known(0, 0, 4), 0);
        ElevenMeasures y = Check.room("keep 1;");
        Check.plain(y, 0, 100, 0, 0, 0);
        y.day(1);
        y.out(0);
        due("11: an OUT one is known", y.known(0, 0, 1), 100);
    }

    // Promise 12: "It is FILED by its MEASURES and the edges of THE DAY: the DRAWER in which it
    // was. BAD; STATE: it is OUT."
    private static void file() {
        Supplier<ElevenMeasures> busy = BoundaryCardTest::busyRoom;
        Twin.bounds("12: CARD", busy, 0, 2, (x, v) -> x.file(v));
        Twin.bounds("12: CARD of 24", BoundaryCardTest::fullRoom, 0, 23, (x, v) -> x.file(v));
        Twin.refused("12: nothing there yet", ElevenMeasures::new, x -> x.file(0), BAD);
        Twin.refused("12: it is OUT", busy, x -> x.file(2), STATE);
        ElevenMeasures x = busyRoom();
        due("12: it was in", x.file(0), 5);
        due("9: it is in", x.of(0, 8), 23);
        due("12: then it was in that", x.file(0), 23);
        due("9: another one stays", x.of(1, 8), 5);
    }

    // Promise 12, Terms: "until it is FILED anew": edges, days, MEASURES told anew do not move it.
    private static void filedUntilFiledAnew() {
        ElevenMeasures x = Check.room("from 2 edge a 1 2;");
        Check.plain(x, 0, 332, 400, 400, 0);
        x.anew(0, 0, 333);
        due("9: told anew, it stays", x.of(0, 8), 4);
        due("9: it lies elsewhere", x.of(0, 9), 13);
        due("35: one elsewhere", x.count(3), 1);
        due("12: FILED anew", x.file(0), 4);
        due("35: none elsewhere", x.count(3), 0);
        x.day(1);
        due("9: the day ahead of the edges", x.of(0, 9), 13);
        x.day(2);
        due("9: by the edges of THE DAY", x.of(0, 9), 22);
        due("9: it stays", x.of(0, 8), 13);
        due("12: FILED by them", x.file(0), 13);
        due("9: it is in", x.of(0, 8), 22);
        Check.text(x, "edge a 998 999;");
        due("9: by edges that a text tells", x.of(0, 9), 4);
        due("9: it stays by a text", x.of(0, 8), 22);
    }

    // Promise 13: "It is OUT: 1. BAD; STATE: it is already, or it is not DUE."
    private static void out() {
        Supplier<ElevenMeasures> busy = BoundaryCardTest::busyRoom;
        Twin.bounds("13: CARD", busy, 0, 2, (x, v) -> x.out(v));
        Twin.refused("13: nothing there yet", ElevenMeasures::new, x -> x.out(0), BAD);
        Twin.refused("13: it is already", busy, x -> x.out(2), STATE);
        Twin.refused("13: none is DUE", BoundaryCardTest::fullRoom, x -> x.out(23), STATE);
        Supplier<ElevenMeasures> notDue = () -> {
            ElevenMeasures x = busyRoom();
            Check.plain(x, 0, 1, 1, 1, 1);
            x.day(9);
            return x;
        };
        Twin.refused("13: a day ahead", notDue, x -> x.out(3), STATE);
        ElevenMeasures x = notDue.get();
        x.day(10);
        due("13: DUE", x.out(3), 1);
        due("13: already", x.out(3), STATE);
        Check.text(x, "keep 9999;");
        due("13: already, though it is not DUE", x.out(3), STATE);
        due("9: OUT stays", x.of(3, 10), 1);
    }

    // Promise 13, Terms: what is OUT is FILED in no DRAWER, and all can be OUT.
    private static void outChangesTheRest() {
        ElevenMeasures x = Check.room("keep 1;");
        for (int c = 0; c < 24; c++) {
            Check.plain(x, 0, 400, 400, 400, 40);
        }
        x.day(1);
        x.tell(0, 400, 400, 400, 40);
        for (int c = 23; c >= 0; c--) {
            due("13: out with " + c, x.out(c), 1);
            due("9: in no DRAWER", x.of(c, 8), NONE);
            due("9: it is OUT", x.of(c, 10), 1);
            due("14: those FILED", x.drawer(13, 1), (1 << c) - 1);
            due("18: MATCHES", x.match(0), c);
            due("35: OUT", x.count(1), 24 - c);
            due("35: DUE that are not OUT", x.count(2), c);
        }
        due("35: CARDS stay", x.count(0), 24);
        due("19: all are OUT", x.byChance(0), NONE);
        due("24: no MEN", x.men(0), 0);
    }

    // Promise 14: "How many CARDS are FILED in a DRAWER (what 0), those (bits, 1), how many of
    // these lie in another one by the edges of THE DAY (2). BAD."
    private static void drawer() {
        Supplier<ElevenMeasures> busy = BoundaryCardTest::busyRoom;
        Twin.bounds("14: DRAWER", busy, 0, 26, (x, v) -> x.drawer(v, 0));
        Twin.bounds("14: DRAWER, those", busy, 0, 26, (x, v) -> x.drawer(v, 1));
        Twin.bounds("14: what", busy, 0, 2, (x, v) -> x.drawer(0, v));
        ElevenMeasures x = busyRoom();
        int[][] rows = {{5, 2, 3, 2}, {23, 0, 0, 0}, {19, 0, 0, 0}, {0, 0, 0, 0}, {26, 0, 0, 0}};
        for (int[] row : rows) {
            for (int what = 0; what < 3; what++) {
                due("14: DRAWER " + row[0] + ", " + what, x.drawer(row[0], what), row[1 + what]);
            }
        }
        x.file(1);
        due("14: one is FILED anew", x.drawer(5, 1), 1);
        due("14: in its DRAWER", x.drawer(23, 1), 2);
        due("14: it lies in no other", x.drawer(23, 2), 0);
    }

    // Promise 14: all 24 in the first and in the last DRAWER.
    private static void drawerOfAll() {
        int[] drawers = {0, 26};
        int[] lengths = {1, 999};
        for (int i = 0; i < 2; i++) {
            ElevenMeasures x = Check.room("from 1 edge c 400 500;from 2 edge a 1 999;");
            for (int c = 0; c < 24; c++) {
                Check.plain(x, 0, lengths[i] == 1 ? 332 : 998, lengths[i], lengths[i], 0);
            }
            due("14: 24", x.drawer(drawers[i], 0), 24);
            due("14: their bits", x.drawer(drawers[i], 1), (1 << 24) - 1);
            x.day(1);
            due("14: none lies elsewhere", x.drawer(drawers[i], 2), 0);
            x.day(2);
            due("14: all lie elsewhere", x.drawer(drawers[i], 2), 24);
            due("35: all lie elsewhere", x.count(3), 24);
        }
    }
}
