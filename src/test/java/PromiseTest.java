/** For each promise of the document what it says of ordinary calls, of edges, of wrong ones. */
public final class PromiseTest {
    private static final int BAD = -1, STATE = -2, FULL = -3, NONE = -4;

    private PromiseTest() {
    }

    public static void main(String[] args) {
        constants();
        promise1();
        promise2();
        promise3();
        promise4();
        promise5And6Grammar();
        promise5And6Bounds();
        promise5And6Again();
        promise5Lines();
        promise5Stays();
        promise7();
        promise8();
        promise9();
        promise10();
        promise11();
        promise12();
        promise13();
        promise14();
        promise15();
        promise16();
        promise17();
        promise18();
        promise18Grown();
        promise19();
        promise20();
        promise21();
        promise22();
        promise23();
        promise24();
        promise25();
        promise26();
        promise27();
        promise28();
        promise29();
        promise30();
        promise31();
        promise32();
        promise33();
        promise33Full();
        promise34();
        promise35();
        promise35Elsewhere();
        Check.close();
    }

    private static void due(String what, long got, long want) {
        Check.due(what, got, want);
    }

    private static void constants() {
        due("BAD", ElevenMeasures.BAD, -1);
        due("STATE", ElevenMeasures.STATE, -2);
        due("FULL", ElevenMeasures.FULL, -3);
        due("NONE", ElevenMeasures.NONE, -4);
    }

    private static void promise1() {
        ElevenMeasures x = new ElevenMeasures();
        for (int what = 0; what <= 10; what++) {
            due("1: count " + what, x.count(what), 0);
        }
        due("1: sheet 0", x.count(11), NONE);
        for (int k = 0; k < 4; k++) {
            due("1: sheet " + k, x.lay(k, 0, 1), -11);
        }
        due("1: fault", x.fault(), 0);
        due("1: torn", x.torn(), 0);
        due("1: no rules", x.rule(0, 0), 333);
        due("1: no telling", x.match(0), STATE);
    }

    private static void promise2() {
        ElevenMeasures x = new ElevenMeasures();
        due("2: below 0", x.day(-1), BAD);
        due("2: the same", x.day(0), 0);
        due("2: later", x.day(10), 0);
        due("2: ahead of it", x.day(9), BAD);
        due("2: stays", x.count(9), 10);
        due("2: above", x.day(10000), BAD);
        due("2: last", x.day(9999), 10);
        due("2: last again", x.day(9999), 9999);
    }

    private static void promise3() {
        ElevenMeasures x = new ElevenMeasures();
        long keep = 0x6b65657020373b20L;
        due("3: eight bytes", x.feed(keep), 8);
        due("3: highest first", x.text(), 1);
        due("3: as told", x.rule(18, 0), 7);
        for (int i = 1; i <= 30; i++) {
            due("3: feed " + i, x.feed(-1), 8 * i);
        }
        due("3: full", x.feed(0), FULL);
        due("3: full changes nothing", x.count(10), 240);
        x.end(233);
        due("3: 233 and 8", x.feed(0), FULL);
        x.end(232);
        due("3: 232 and 8", x.feed(0), 240);
        x.text();
        due("3: a byte above 127", x.fault(), 1);
    }

    private static void promise4() {
        ElevenMeasures x = new ElevenMeasures();
        due("4: nothing", x.end(0), 0);
        due("4: more", x.end(1), BAD);
        x.feed(0);
        due("4: all", x.end(8), 8);
        due("4: above", x.end(9), BAD);
        due("4: below", x.end(-1), BAD);
        due("4: some", x.end(3), 8);
        due("4: kept", x.count(10), 3);
        due("4: none", x.end(0), 3);
        due("4: behind it", x.feed(0), 8);
    }

    /** A text alone in a new room: how many lines, or the fault and its place. */
    private static void reads(String text, int lines) {
        ElevenMeasures x = new ElevenMeasures();
        due("5: " + text, Check.text(x, text), lines);
        due("6: " + text, x.fault(), 0);
        due("5: lines told: " + text, x.count(4), lines);
        due("5: tape behind " + text, x.count(10), 0);
    }

    private static void faults(String text, int place, int fault) {
        ElevenMeasures x = new ElevenMeasures();
        due("5: " + text, Check.text(x, text), -10 - place);
        due("6: " + text, x.fault(), fault);
        due("5: no lines told: " + text, x.count(4), 0);
        due("5: tape behind " + text, x.count(10), 0);
    }

    private static void promise5And6Grammar() {
        reads("", 0);
        reads("   ", 0);
        reads("keep5;", 1);
        reads("  keep   5  ;  ", 1);
        reads("from3edge a1 2;grow b50;from 0009 other 0;spread0 0;", 4);
        reads("keep 0001;", 1);
        faults(";", 0, 2);
        faults("7", 0, 2);
        faults("keeps 5;", 0, 2);
        faults("kee 5;", 0, 2);
        faults("xeep 5;", 0, 2);
        faults("keepz 5;", 0, 2);
        faults("keep 5;" + (char) 0, 7, 1);
        faults("edgea 1 2;", 0, 2);
        faults("growb 50;", 0, 2);
        faults("Keep 5;", 0, 1);
        faults("keep 5\n;", 6, 1);
        faults("keep" + (char) 160 + "5;", 4, 1);
        faults("keep 00001;", 5, 1);
        faults("keep 5:", 6, 1);
        faults("keep {5;", 5, 1);
        faults("keep `5;", 5, 1);
        faults("keep;", 4, 2);
        faults("keep keep;", 5, 2);
        faults("keep 5 6;", 7, 2);
        faults("keep 5 keep 6;", 7, 2);
        faults("keep 5", 6, 2);
        faults("keep 5   ", 9, 2);
        faults("from", 4, 2);
        faults("from ;", 5, 2);
        faults("from keep 1;", 5, 2);
        faults("from 5;", 6, 2);
        faults("from 5 from 6 keep 1;", 7, 2);
        faults("edge 1 2;", 5, 2);
        faults("edge ab 1 2;", 5, 2);
        faults("edge e 1 2;", 5, 2);
        faults("edge a ;", 7, 2);
        faults("edge a 1;", 8, 2);
        faults("edge a 1 2 3;", 11, 2);
        faults("grow 1;", 5, 2);
        faults("spread a 1;", 7, 2);
        faults("spread 1;", 8, 2);
    }

    private static void promise5And6Bounds() {
        reads("edge a 1 2;edge d 998 999;", 2);
        faults("edge a 0 5;", 7, 3);
        faults("edge a 1000 5;", 7, 3);
        faults("edge a 5 5;", 9, 3);
        faults("edge a 5 4;", 9, 3);
        faults("edge a 5 1000;", 9, 3);
        faults("edge a 999 999;", 11, 3);
        reads("spread 0 0;spread 5 20;", 2);
        faults("spread 6 30;", 7, 3);
        faults("spread 5 21;", 9, 3);
        reads("grow a 0;grow d 50;", 2);
        faults("grow d 51;", 7, 3);
        reads("keep 1;from 1 keep 9999;", 2);
        faults("keep 0;", 5, 3);
        reads("other 0;from 9999 other 20;", 2);
        faults("other 21;", 6, 3);
        faults("from 10000 keep 1;", 5, 1);
        // the first met, as tokens are read one by one
        faults("keep 0 =", 5, 3);
        faults("keep = 0", 5, 1);
        faults("keep 1 0;=", 7, 2);
    }

    private static void promise5And6Again() {
        reads("keep 1;from 1 keep 2;", 2);
        reads("edge a 1 2;edge b 1 2;grow a 1;grow b 1;", 4);
        reads("spread 0 1;spread 1 1;from 3 spread 0 1;", 3);
        faults("keep 1;keep 2;", 7, 5);
        faults("keep 1;keep", 7, 5);
        faults("keep 1;from 0 keep 2;", 14, 5);
        faults("from 7 other 1;from 7 other 99;", 22, 5);
        faults("edge a 1 2;edge a 0", 16, 5);
        faults("from 5 grow c 1;from 5 grow c =", 28, 5);
        faults("spread 0 1;spread 0 99;", 18, 5);
        faults("spread 0 1;spread 6 1;", 18, 3);
    }

    private static void promise5Lines() {
        String sixteen = Check.manyLines(16);
        reads(sixteen, 16);
        reads(sixteen + "  ", 16);
        faults(Check.manyLines(17), sixteen.length(), 4);
        faults(sixteen + " keep 1;", sixteen.length() + 1, 4);
        faults(sixteen + "=", sixteen.length(), 1);
        faults(sixteen + "12345", sixteen.length(), 1);
        String[] begins = {"from", "from;", "edge", "spread 6", "grow", "keep 0", "other"};
        for (String begin : begins) {
            faults(sixteen + begin, sixteen.length(), 4);
        }
        // what begins no line is not the first token of the 17th one
        String[] strays = {"7", ";", "a", "keeps 1;", "fro 1", "rom", "9999 keep 1;"};
        for (String stray : strays) {
            faults(sixteen + " " + stray, sixteen.length() + 1, 2);
            faults(Check.manyLines(15) + stray, Check.manyLines(15).length(), 2);
        }
    }

    private static void promise5Stays() {
        ElevenMeasures x = Check.room("keep 7;other 5;");
        due("5: a line and a fault", Check.text(x, "keep 8;keep 9;"), -17);
        due("5: what was told stays", x.rule(18, 0), 7);
        due("5: its lines stay", x.count(4), 2);
        due("6: the fault", x.fault(), 5);
        due("5: anew", Check.text(x, "keep 9;"), 1);
        due("6: none", x.fault(), 0);
        due("5: the new text", x.rule(18, 0), 9);
        due("5: the text is all of the rules", x.rule(19, 0), 2);
        due("5: nothing", x.text(), 0);
        due("5: no rules", x.rule(18, 0), 9999);
    }

    private static void promise7() {
        ElevenMeasures x = new ElevenMeasures();
        for (int rule = 0; rule < 20; rule++) {
            int usual = rule < 4 ? 333 : rule < 8 ? 667 : rule < 14 ? 3 : rule < 18 ? 0
                    : rule == 18 ? 9999 : 2;
            due("7: usual " + rule, x.rule(rule, 9999), usual);
        }
        due("7: below", x.rule(-1, 0), BAD);
        due("7: above", x.rule(20, 0), BAD);
        due("7: day below", x.rule(0, -1), BAD);
        due("7: day above", x.rule(0, 10000), BAD);
        Check.text(x, "from 20 edge b 5 6;from 10 edge b 7 8;from 10 spread 5 9;from 9999 keep 1;"
                + "grow d 4;from 3 other 1;");
        int[][] rows = {{1, 9, 333}, {5, 9, 667}, {1, 10, 7}, {5, 10, 8}, {1, 19, 7}, {1, 20, 5},
            {5, 9999, 6}, {0, 20, 333}, {13, 9, 3}, {13, 10, 9}, {12, 10, 3}, {18, 9998, 9999},
            {18, 9999, 1}, {17, 0, 4}, {16, 0, 0}, {19, 2, 2}, {19, 3, 1}};
        for (int[] row : rows) {
            due("7: rule " + row[0] + " on " + row[1], x.rule(row[0], row[1]), row[2]);
        }
    }

    private static void promise8() {
        ElevenMeasures x = new ElevenMeasures();
        due("8: hand below", x.card(-1, 0, 1, 1, 1, 1, 0), BAD);
        due("8: hand above", x.card(6, 0, 1, 1, 1, 1, 0), BAD);
        due("8: kind below", x.card(0, -1, 1, 1, 1, 1, 0), BAD);
        due("8: kind above", x.card(0, 3, 1, 1, 1, 1, 0), BAD);
        for (int m = 0; m < 4; m++) {
            int[] v = {1, 1, 1, 1};
            v[m] = -1;
            due("8: below " + m, x.card(0, 0, v[0], v[1], v[2], v[3], 0), BAD);
            v[m] = 1000;
            due("8: above " + m, x.card(0, 0, v[0], v[1], v[2], v[3], 0), BAD);
        }
        due("8: prints below", x.card(0, 0, 1, 1, 1, 1, -1), BAD);
        due("8: prints above", x.card(0, 0, 1, 1, 1, 1, 1024), BAD);
        due("8: none came", x.count(0), 0);
        for (int c = 0; c < 24; c++) {
            due("8: card " + c, x.card(5, 2, 999, 0, 999, 999, 1023), c);
        }
        due("8: full", x.card(0, 0, 1, 1, 1, 1, 0), FULL);
        due("8: bad ahead of full", x.card(6, 0, 1, 1, 1, 1, 0), BAD);
        due("8: filed", x.of(23, 8), 23);
    }

    private static void promise9() {
        ElevenMeasures x = Check.room("from 5 edge a 50 60;keep 3;spread 4 7;from 5 spread 4 9;"
                + "from 5 other 6;");
        x.day(2);
        x.card(4, 2, 333, 667, 332, 9, 5);
        x.card(4, 1, 666, 0, 668, 0, 0);
        due("9: drawer, other spreads", x.of(0, 12), 9);
        x.day(5);
        x.anew(0, 3, 11);
        x.anew(0, 3, 0);
        int[] want = {4, 2, 333, 667, 332, 0, 5, 2, 15, 24, 0, 1, 15, 2};
        for (int what = 0; what < want.length; what++) {
            due("9: of 0, " + what, x.of(0, what), want[what]);
        }
        int[] young = {4, 1, 666, 0, 668, 0, 0, 2, 14, 23, 0, 1, 9, 0};
        for (int what = 0; what < young.length; what++) {
            due("9: of 1, " + what, x.of(1, what), young[what]);
        }
        x.out(0);
        due("9: out is in no drawer", x.of(0, 8), NONE);
        due("9: out, by measures", x.of(0, 9), 24);
        due("9: is out", x.of(0, 10), 1);
        due("9: out is due as well", x.of(0, 11), 1);
        due("9: no card", x.of(2, 0), BAD);
        due("9: card below", x.of(-1, 0), BAD);
        due("9: what below", x.of(0, -1), BAD);
        due("9: what above", x.of(0, 14), BAD);
    }

    private static void promise10() {
        ElevenMeasures x = new ElevenMeasures();
        Check.plain(x, 0, 100, 200, 300, 400);
        due("10: no card", x.anew(1, 0, 5), BAD);
        due("10: card below", x.anew(-1, 0, 5), BAD);
        due("10: measure below", x.anew(0, -1, 5), BAD);
        due("10: measure above", x.anew(0, 4, 5), BAD);
        due("10: below", x.anew(0, 0, -1), BAD);
        due("10: above", x.anew(0, 0, 1000), BAD);
        due("10: none of these", x.count(5), 0);
        due("10: was", x.anew(0, 0, 999), 100);
        due("10: stays in its drawer", x.of(0, 8), 0);
        due("10: lies elsewhere", x.of(0, 9), 18);
        due("10: not taken", x.anew(0, 0, 0), 999);
        for (int i = 2; i < 40; i++) {
            due("10: time " + i, x.anew(0, 3, 400 + i + 1), 400 + (i == 2 ? 0 : i));
        }
        due("10: full", x.anew(0, 1, 1), FULL);
        due("10: full changes nothing", x.of(0, 3), 200);
        due("10: bad ahead of full", x.anew(0, 4, 1), BAD);
        due("10: how often", x.of(0, 13), 40);
    }

    private static void promise11() {
        ElevenMeasures x = new ElevenMeasures();
        x.day(5);
        Check.plain(x, 0, 100, 200, 0, 0);
        Check.plain(x, 0, 101, 200, 0, 0);
        x.day(6);
        x.anew(0, 0, 90);
        x.day(8);
        x.anew(0, 0, 110);
        x.anew(0, 0, 120);
        x.anew(1, 0, 777);
        x.anew(0, 1, 778);
        x.day(9);
        x.anew(0, 0, 0);
        int[][] rows = {{0, 0}, {4, 0}, {5, 100}, {6, 90}, {7, 90}, {8, 120}, {9, 0}, {9999, 0}};
        for (int[] row : rows) {
            due("11: on " + row[0], x.known(0, 0, row[0]), row[1]);
        }
        due("11: another card", x.known(1, 0, 9999), 777);
        due("11: another measure", x.known(0, 1, 8), 778);
        due("11: no card", x.known(2, 0, 0), BAD);
        due("11: card below", x.known(-1, 0, 0), BAD);
        due("11: measure below", x.known(0, -1, 0), BAD);
        due("11: measure above", x.known(0, 4, 0), BAD);
        due("11: day below", x.known(0, 0, -1), BAD);
        due("11: day above", x.known(0, 0, 10000), BAD);
    }

    private static void promise12() {
        ElevenMeasures x = Check.room("keep 10;from 3 edge c 1 2;");
        Check.plain(x, 0, 100, 400, 300, 0);
        x.day(3);
        x.anew(0, 0, 700);
        due("12: stays", x.of(0, 8), 3);
        due("12: was in", x.file(0), 3);
        due("12: is in", x.of(0, 8), 23);
        due("12: again", x.file(0), 23);
        due("12: no card", x.file(1), BAD);
        due("12: below", x.file(-1), BAD);
        x.day(10);
        x.out(0);
        due("12: out", x.file(0), STATE);
    }

    private static void promise13() {
        ElevenMeasures x = Check.room("keep 10;from 12 keep 20;");
        Check.plain(x, 0, 100, 400, 300, 0);
        Check.plain(x, 0, 100, 400, 300, 0);
        due("13: no card", x.out(2), BAD);
        due("13: below", x.out(-1), BAD);
        x.day(9);
        due("13: not due", x.out(0), STATE);
        x.day(10);
        due("13: due", x.out(0), 1);
        due("13: already", x.out(0), STATE);
        x.day(12);
        due("13: by the keep of the day", x.out(1), STATE);
        due("13: one is out", x.count(1), 1);
    }

    private static void promise14() {
        ElevenMeasures x = Check.room("from 1 edge a 50 60;keep 1;");
        Check.plain(x, 0, 100, 100, 100, 0);
        Check.plain(x, 0, 40, 100, 100, 0);
        Check.plain(x, 0, 100, 100, 0, 0);
        Check.plain(x, 0, 55, 100, 100, 0);
        due("14: how many", x.drawer(0, 0), 3);
        due("14: these", x.drawer(0, 1), 11);
        due("14: none elsewhere", x.drawer(0, 2), 0);
        due("14: not taken", x.drawer(1, 1), 4);
        x.day(1);
        due("14: elsewhere", x.drawer(0, 2), 2);
        x.out(0);
        due("14: an out one", x.drawer(0, 1), 10);
        due("14: an out one elsewhere", x.drawer(0, 2), 1);
        due("14: empty", x.drawer(26, 0), 0);
        due("14: drawer below", x.drawer(-1, 0), BAD);
        due("14: drawer above", x.drawer(27, 0), BAD);
        due("14: what below", x.drawer(0, -1), BAD);
        due("14: what above", x.drawer(0, 3), BAD);
    }

    private static void promise15() {
        ElevenMeasures x = Check.room("from 1 edge a 50 60;");
        due("15: hand below", x.tell(-1, 1, 1, 1, 1), BAD);
        due("15: hand above", x.tell(6, 1, 1, 1, 1), BAD);
        for (int m = 0; m < 4; m++) {
            int[] v = {1, 1, 1, 1};
            v[m] = -1;
            due("15: below " + m, x.tell(0, v[0], v[1], v[2], v[3]), BAD);
            v[m] = 1000;
            due("15: above " + m, x.tell(0, v[0], v[1], v[2], v[3]), BAD);
        }
        due("15: none yet", x.chance(0, 0), STATE);
        due("15: drawer", x.tell(0, 55, 333, 667, 999), 5);
        x.day(1);
        due("15: edges of the day", x.tell(0, 55, 332, 666, 999), 10);
        due("15: nothing taken", x.tell(5, 0, 0, 0, 0), 13);
        due("15: a bad one", x.tell(6, 1, 1, 1, 1), BAD);
        due("15: leaves the one before", x.chance(0, 1), 27);
    }

    private static void promise16() {
        ElevenMeasures x = Check.room("spread 0 2;spread 1 5;from 1 spread 1 0;edge b 3 5;");
        due("16: no telling", x.chance(0, 0), STATE);
        due("16: bad first", x.chance(27, 0), BAD);
        // 331 to 335: two below 333, three not; 1 to 3 of b: two below 3, one not
        x.tell(0, 333, 1, 0, 0);
        due("16: 0 over", x.chance(0, 0), 4);
        due("16: 0 under", x.chance(0, 1), 45);
        due("16: 12 over", x.chance(12, 0), 1);
        due("16: 12 under", x.chance(12, 1), 15);
        due("16: none over", x.chance(18, 0), 0);
        due("16: none under", x.chance(18, 1), 1);
        long sum = 0;
        for (int d = 0; d < 27; d++) {
            sum += x.chance(d, 0) * (45 / x.chance(d, 1));
        }
        due("16: the whole", sum, 45);
        // 994 to 1004, with numbers above 999 too
        x.tell(1, 999, 4, 4, 0);
        Check.text(x, "spread 1 5;edge a 1 999;edge b 1 999;edge c 1 999;from 1 spread 1 0;");
        due("16: above 999 over", x.chance(22, 0), 6);
        due("16: above 999 under", x.chance(22, 1), 11);
        x.day(1);
        due("16: on the day over", x.chance(22, 0), 1);
        due("16: on the day under", x.chance(22, 1), 1);
        due("16: drawer below", x.chance(-1, 0), BAD);
        due("16: what below", x.chance(0, -1), BAD);
        due("16: what above", x.chance(0, 2), BAD);
    }

    private static void promise17() {
        ElevenMeasures x = Check.room("spread 0 2;");
        due("17: no telling", x.look(0, 0), STATE);
        due("17: bad first", x.look(0, 3), BAD);
        Check.plain(x, 0, 100, 400, 400, 0);
        Check.plain(x, 0, 400, 400, 400, 0);
        // drawers 13 with 3 of 5, 4 with 2 of 5
        x.tell(0, 333, 500, 500, 0);
        due("17: all", x.look(399, 0), 2);
        due("17: these", x.look(399, 1), 1 << 13 | 1 << 4);
        due("17: cards", x.look(399, 2), 2);
        due("17: first", x.look(399, 10), 13);
        due("17: second", x.look(399, 11), 4);
        due("17: third", x.look(399, 12), NONE);
        due("17: just passed", x.look(400, 0), 1);
        due("17: one card", x.look(400, 2), 1);
        due("17: not the second", x.look(400, 11), NONE);
        due("17: at least one", x.look(999, 0), 1);
        // all alike: the least number first, 26 of 27 leave 37.04 of 1000
        x.tell(0, 0, 0, 0, 0);
        due("17: all 27", x.look(0, 0), 27);
        due("17: all bits", x.look(0, 1), (1 << 27) - 1);
        due("17: 37 of 1000", x.look(37, 0), 27);
        due("17: 38 of 1000", x.look(38, 0), 26);
        due("17: in order", x.look(0, 36), 26);
        due("17: in order, left out", x.look(38, 36), NONE);
        due("17: p below", x.look(-1, 0), BAD);
        due("17: p above", x.look(1000, 0), BAD);
        int[] bad = {-1, 3, 9, 37};
        for (int what : bad) {
            due("17: what " + what, x.look(0, what), BAD);
        }
    }

    private static void promise18() {
        ElevenMeasures x = Check.room("spread 0 2;spread 1 4;keep 5;");
        due("18: no telling", x.match(0), STATE);
        due("18: bad first", x.match(2), BAD);
        Check.plain(x, 1, 106, 200, 0, 0);
        Check.plain(x, 1, 94, 200, 300, 40);
        Check.plain(x, 1, 107, 200, 300, 40);
        Check.plain(x, 1, 93, 200, 300, 40);
        x.card(1, 2, 108, 200, 0, 0, 0);
        Check.plain(x, 1, 0, 0, 0, 40);
        Check.plain(x, 1, 100, 203, 300, 44);
        x.tell(0, 100, 200, 300, 41);
        due("18: how many", x.match(0), 5);
        due("18: these", x.match(1), 1 | 2 | 16 | 32 | 64);
        int[] order = {5, 0, 6, 1, 4, NONE};
        for (int i = 0; i < order.length; i++) {
            due("18: card " + i, x.match(10 + i), order[i]);
        }
        int[] miss = {6, 7, NONE, NONE, 8, 1, 6};
        for (int c = 0; c < miss.length; c++) {
            due("18: miss of " + c, x.match(50 + c), miss[c]);
        }
        due("18: no such card", x.match(57), BAD);
        due("18: no such card, all others", x.match(73), BAD);
        due("18: last of the list", x.match(33), NONE);
        int[] bad = {-1, 2, 9, 34, 49, 73, 74, Integer.MAX_VALUE, Integer.MIN_VALUE};
        for (int what : bad) {
            due("18: what " + what, x.match(what), BAD);
        }
        Check.plain(x, 1, 1, 1, 1, 1);
        x.tell(0, 1, 0, 0, 8);
        due("18: a measure of 1", x.match(57), NONE);
        x.tell(0, 1, 500, 0, 0);
        due("18: a measure of 1 in both", x.match(57), NONE);
        x.tell(0, 0, 0, 0, 0);
        due("18: nothing taken in both", x.match(0), 8);
        due("18: misses nothing", x.match(50), 0);
        x.day(5);
        x.out(0);
        due("18: out", x.match(50), NONE);
        due("18: out is none of them", x.match(0), 7);
        due("18: the first then", x.match(10), 1);
    }

    private static void promise18Grown() {
        ElevenMeasures x = Check.room("spread 0 1;grow a 10;from 30 grow a 20;");
        x.card(0, 1, 100, 0, 0, 0, 0);
        Check.plain(x, 0, 100, 0, 0, 0);
        x.day(25);
        x.tell(0, 104, 0, 0, 0);
        due("18: young, within", x.match(50), 2);
        due("18: plain, not", x.match(51), NONE);
        x.tell(0, 105, 0, 0, 0);
        due("18: young, above", x.match(50), NONE);
        x.tell(0, 1, 0, 0, 0);
        due("18: a telling of 1", x.match(51), NONE);
        x.tell(0, 105, 0, 0, 0);
        x.day(30);
        due("18: grow of the day", x.match(50), 0);
        x.tell(0, 98, 0, 0, 0);
        due("18: below what is told", x.match(50), 2);
        x.tell(0, 97, 0, 0, 0);
        due("18: too far below", x.match(50), NONE);
        for (int m = 0; m < 4; m++) {
            ElevenMeasures y = Check.room("grow " + (char) ('a' + m) + " 10;");
            y.card(0, 1, 100, 100, 100, 100, 0);
            y.day(1000);
            for (int k = 0; k < 4; k++) {
                y.tell(0, k == 0 ? 200 : 0, k == 1 ? 200 : 0, k == 2 ? 200 : 0, k == 3 ? 200 : 0);
                due("18: " + k + " where " + m + " grows", y.match(50), k == m ? 0 : NONE);
            }
        }
    }

    private static void promise19() {
        ElevenMeasures x = Check.room("spread 0 2;spread 1 9;keep 5;");
        due("19: no telling", x.byChance(0), STATE);
        due("19: bad first", x.byChance(2), BAD);
        due("19: bad below", x.byChance(-1), BAD);
        x.tell(0, 100, 200, 0, 40);
        due("19: no cards", x.byChance(0), NONE);
        // by the spread of the telling's hand, whatever that of the cards is
        Check.plain(x, 1, 102, 200, 300, 40);
        Check.plain(x, 1, 98, 203, 300, 40);
        Check.plain(x, 1, 103, 0, 300, 42);
        due("19: over", x.byChance(0), 2);
        due("19: under", x.byChance(1), 3);
        x.tell(0, 0, 0, 0, 0);
        due("19: nothing taken, over", x.byChance(0), 3);
        due("19: nothing taken, under", x.byChance(1), 1);
        x.tell(0, 500, 0, 0, 0);
        due("19: nobody, over", x.byChance(0), 0);
        due("19: nobody, under", x.byChance(1), 1);
        x.tell(0, 0, 1, 0, 0);
        due("19: a card that was not measured is not near", x.byChance(0), 0);
        Check.plain(x, 1, 0, 1, 0, 0);
        due("19: one of 1 is", x.byChance(0), 1);
        due("19: one of 1 of four", x.byChance(1), 1);
        x.anew(3, 1, 0);
        due("19: no more", x.byChance(0), 0);
        x.day(5);
        x.out(3);
        x.out(2);
        x.tell(0, 98, 202, 0, 0);
        due("19: without the out one, over", x.byChance(0), 1);
        due("19: without the out one, under", x.byChance(1), 1);
        x.out(0);
        x.out(1);
        due("19: all are out", x.byChance(1), NONE);
    }

    private static void promise20() {
        ElevenMeasures x = Check.room("grow a 10;from 40 grow a 50;");
        x.day(5);
        x.card(0, 1, 100, 0, 50, 0, 0);
        x.card(0, 2, 100, 0, 0, 0, 0);
        int[][] rows = {{5, 100}, {14, 100}, {15, 101}, {39, 103}, {40, 117}, {9999, 5097}};
        for (int[] row : rows) {
            due("20: on " + row[0], x.grown(0, 0, row[0]), row[1]);
        }
        due("20: not taken", x.grown(0, 1, 500), 0);
        due("20: does not grow", x.grown(0, 2, 500), 50);
        due("20: not young", x.grown(1, 0, 500), 100);
        x.anew(0, 1, 1);
        due("20: a measure of 1", x.grown(0, 1, 4), BAD);
        x.anew(0, 0, 1);
        due("20: a measure of 1 grows", x.grown(0, 0, 15), 2);
        x.day(50);
        x.anew(0, 0, 200);
        due("20: what is told now", x.grown(0, 0, 15), 201);
        due("20: ahead of its day", x.grown(0, 0, 4), BAD);
        due("20: day above", x.grown(0, 0, 10000), BAD);
        due("20: no card", x.grown(2, 0, 50), BAD);
        due("20: card below", x.grown(-1, 0, 50), BAD);
        due("20: measure below", x.grown(0, -1, 50), BAD);
        due("20: measure above", x.grown(0, 4, 50), BAD);
    }

    private static void promise21() {
        ElevenMeasures x = Check.room("spread 0 2;keep 5;");
        due("21: no telling", x.beside(0, 0, 1), STATE);
        due("21: bad first", x.beside(11, 0, 0), BAD);
        x.card(0, 0, 331, 500, 500, 0, 3);
        x.card(0, 0, 335, 500, 500, 0, 3);
        x.card(0, 0, 340, 500, 500, 0, 1023);
        x.card(0, 0, 900, 500, 500, 0, 768);
        x.card(0, 0, 334, 0, 0, 0, 5);
        x.tell(0, 333, 500, 500, 0);
        due("21: turned by look", x.beside(2, 0, 0), 4);
        due("21: by a shorter look", x.beside(2, 400, 0), 3);
        due("21: turned by prints", x.beside(2, 0, 1), 4);
        due("21: found by look", x.beside(2, 0, 2), 3);
        due("21: found by a shorter look", x.beside(2, 400, 2), 2);
        due("21: found by prints", x.beside(2, 0, 3), 3);
        due("21: ten ones", x.beside(10, 0, 1), 1);
        due("21: ten ones found", x.beside(10, 0, 3), 0);
        due("21: no ones", x.beside(0, 0, 1), 0);
        x.day(5);
        x.out(0);
        due("21: out, by look", x.beside(2, 0, 0), 3);
        due("21: out, by prints", x.beside(2, 0, 1), 3);
        due("21: ones below", x.beside(-1, 0, 0), BAD);
        due("21: p below", x.beside(0, -1, 0), BAD);
        due("21: p above", x.beside(0, 1000, 0), BAD);
        due("21: what below", x.beside(0, 0, -1), BAD);
        due("21: what above", x.beside(0, 0, 4), BAD);
    }

    private static void promise22() {
        ElevenMeasures x = new ElevenMeasures();
        Check.plain(x, 0, 1, 1, 1, 1);
        Check.plain(x, 0, 1, 1, 1, 1);
        due("22: was not", x.bar(0, 1, true), 0);
        due("22: was", x.bar(1, 0, true), 1);
        due("22: one bar", x.count(8), 1);
        due("22: taken away", x.bar(1, 0, false), 1);
        due("22: no more", x.bar(0, 1, false), 0);
        due("22: no bars", x.count(8), 0);
        due("22: one and the same", x.bar(1, 1, true), BAD);
        due("22: no card", x.bar(0, 2, true), BAD);
        due("22: no first card", x.bar(2, 0, true), BAD);
        due("22: below", x.bar(-1, 0, true), BAD);
        due("22: below, second", x.bar(0, -1, true), BAD);
    }

    private static void promise23() {
        ElevenMeasures x = Check.room("spread 0 2;spread 1 3;other 4;keep 5;grow a 50;");
        Check.plain(x, 0, 100, 0, 300, 0);
        Check.plain(x, 1, 105, 200, 300, 0);
        Check.plain(x, 1, 106, 200, 300, 0);
        x.card(1, 2, 109, 200, 300, 0, 0);
        x.card(0, 1, 100, 0, 300, 0, 0);
        due("23: as near", x.join(0, 1), 1);
        due("23: the other way", x.join(1, 0), 1);
        due("23: one farther", x.join(0, 2), 0);
        due("23: with other", x.join(0, 3), 1);
        x.bar(3, 0, true);
        due("23: a bar", x.join(0, 3), 0);
        x.day(20);
        due("23: growing is not enough, each way is asked", x.join(4, 2), 0);
        due("23: one and the same", x.join(0, 0), BAD);
        due("23: no card", x.join(0, 5), BAD);
        due("23: no first card", x.join(5, 0), BAD);
        due("23: below", x.join(-1, 0), BAD);
        due("23: below, second", x.join(0, -1), BAD);
        x.out(1);
        due("23: out", x.join(0, 1), 0);
        due("23: out, the other way", x.join(1, 0), 0);
        due("23: an out one with one that is not", x.join(1, 2), 0);
        due("23: two that are not", x.join(2, 3), 1);
        x.out(2);
        due("23: both out", x.join(1, 2), 0);
    }

    private static void promise24() {
        ElevenMeasures x = Check.room("spread 0 2;keep 5;");
        due("24: nobody", x.men(0), 0);
        due("24: no greatest", x.men(1), 0);
        due("24: no card", x.men(10), BAD);
        int[] heads = {500, 108, 100, 104, 112, 507, 503};
        for (int head : heads) {
            Check.plain(x, 0, head, 200, 300, 40);
        }
        due("24: two men", x.men(0), 2);
        due("24: the greatest", x.men(1), 4);
        int[] least = {0, 1, 1, 1, 1, 0, 0};
        for (int c = 0; c < least.length; c++) {
            due("24: least of " + c, x.men(10 + c), least[c]);
        }
        due("24: no quarrel", x.men(2), 0);
        x.bar(2, 4, true);
        x.bar(1, 2, true);
        x.bar(0, 1, true);
        due("24: quarrels within one man only", x.men(2), 2);
        x.bar(0, 5, true);
        due("24: a quarrel of card 0", x.men(2), 3);
        x.day(5);
        x.out(3);
        due("24: the chain is broken", x.men(0), 3);
        due("24: out", x.men(13), NONE);
        due("24: alone", x.men(12), 2);
        due("24: quarrels then", x.men(2), 1);
        due("24: a greatest with card 0", x.men(1), 3);
        x.out(0);
        due("24: card 0 is out", x.men(10), NONE);
        due("24: the least then", x.men(16), 5);
        int[] bad = {-1, 3, 9, 17, 34, Integer.MAX_VALUE, Integer.MIN_VALUE};
        for (int what : bad) {
            due("24: what " + what, x.men(what), BAD);
        }
    }

    private static void promise25() {
        ElevenMeasures x = Check.room("spread 0 2;spread 1 2;spread 2 2;keep 5;");
        Check.plain(x, 0, 100, 0, 300, 40);
        Check.plain(x, 1, 103, 200, 300, 40);
        Check.plain(x, 2, 106, 201, 300, 40);
        Check.plain(x, 0, 101, 0, 300, 40);
        Check.plain(x, 3, 900, 0, 300, 40);
        // doubles of hand 0: 100-103, 100-106, 101-103, 101-106
        due("25: over", x.guess(0, 0, 0), 4);
        due("25: under", x.guess(0, 0, 1), 1);
        due("25: doubles", x.guess(0, 0, 2), 4);
        // of hand 1: 3, 2, 3
        due("25: lowest, over", x.guess(1, 0, 0), 8);
        due("25: lowest, under", x.guess(1, 0, 1), 3);
        due("25: taken in both", x.guess(1, 1, 2), 1);
        due("25: none", x.guess(0, 1, 0), NONE);
        due("25: none, under", x.guess(0, 1, 1), NONE);
        due("25: none at all", x.guess(0, 1, 2), 0);
        due("25: nothing apart, over", x.guess(2, 2, 0), 0);
        due("25: nothing apart, under", x.guess(2, 2, 1), 1);
        due("25: another man", x.guess(3, 3, 2), 0);
        x.bar(0, 2, true);
        due("25: a quarrel is one man still", x.guess(0, 0, 2), 4);
        Check.plain(x, 4, 1, 600, 600, 600);
        Check.plain(x, 5, 1, 600, 600, 600);
        due("25: measures of 1", x.guess(4, 0, 2), 1);
        x.day(5);
        x.out(1);
        due("25: out", x.guess(1, 0, 2), 0);
        due("25: hand below", x.guess(-1, 0, 0), BAD);
        due("25: hand above", x.guess(6, 0, 0), BAD);
        due("25: measure below", x.guess(0, -1, 0), BAD);
        due("25: measure above", x.guess(0, 4, 0), BAD);
        due("25: what below", x.guess(0, 0, -1), BAD);
        due("25: what above", x.guess(0, 0, 3), BAD);
    }

    private static void promise26() {
        ElevenMeasures x = Check.room("spread 0 5;keep 5;other 9;");
        due("26: no cards", x.even(0, 10, 0), NONE);
        Check.plain(x, 0, 0, 200, 0, 0);
        due("26: none taken", x.even(0, 10, 0), NONE);
        int[] heads = {104, 204, 304};
        for (int head : heads) {
            Check.plain(x, 0, head, 0, 0, 0);
        }
        // one in each third: 110 to 200, 210 to 300; of those the fewest near: not 200, not 300
        evenIs(x, 10, 110, 210, 0, 0);
        x.card(0, 2, 124, 0, 0, 0, 0);
        // 110 to 130 are near the other one, 14 from 124 on
        evenIs(x, 10, 140, 210, 1, 0);
        evenIs(x, 100, 200, 300, 1, 2);
        due("26: a single card", x.even(1, 100, 0), 100);
        due("26: a single card, second", x.even(1, 100, 1), 300);
        due("26: a single card, uneven", x.even(1, 100, 2), 1);
        due("26: a single card, near", x.even(1, 100, 3), 0);
        x.day(5);
        x.out(4);
        evenIs(x, 10, 110, 210, 0, 0);
        x.out(0);
        due("26: all out", x.even(1, 100, 0), NONE);
        int[] ears = {1, 850, 999};
        for (int ear : ears) {
            Check.plain(x, 0, 0, 0, 0, ear);
        }
        due("26: the first multiple", x.even(3, 100, 0), 100);
        due("26: the last multiple", x.even(3, 100, 1), 900);
        due("26: 1 and 999 count", x.even(3, 100, 2), 0);
        due("26: a single 999", x.even(3, 11, 2), 0);
        due("26: measure below", x.even(-1, 10, 0), BAD);
        due("26: measure above", x.even(4, 10, 0), BAD);
        due("26: step below", x.even(0, 9, 0), BAD);
        due("26: step above", x.even(0, 101, 0), BAD);
        due("26: what below", x.even(0, 10, -1), BAD);
        due("26: what above", x.even(0, 10, 4), BAD);
    }

    private static void evenIs(ElevenMeasures x, int step, int first, int second, int uneven,
            int near) {
        due("26: first by " + step, x.even(0, step, 0), first);
        due("26: second by " + step, x.even(0, step, 1), second);
        due("26: uneven by " + step, x.even(0, step, 2), uneven);
        due("26: near by " + step, x.even(0, step, 3), near);
    }

    private static void promise27() {
        ElevenMeasures x = Check.room("spread 0 5;keep 5;");
        due("27: nobody", x.judge(0, 1, 999, 0), 0);
        int[] heads = {100, 105, 110, 200, 0, 300};
        for (int head : heads) {
            Check.plain(x, 0, head, 0, 0, 0);
        }
        due("27: uneven", x.judge(0, 105, 300, 0), 2);
        due("27: near", x.judge(0, 105, 300, 1), 4);
        due("27: near both counts once", x.judge(0, 104, 106, 1), 3);
        due("27: an edge is in the third above", x.judge(0, 110, 200, 0), 1);
        due("27: all above", x.judge(0, 1, 2, 0), 5);
        Check.plain(x, 0, 0, 0, 0, 1);
        Check.plain(x, 0, 0, 0, 0, 999);
        due("27: 1 and 999 count", x.judge(3, 2, 999, 0), 1);
        due("27: 1 and 999 near", x.judge(3, 6, 999, 1), 2);
        Check.plain(x, 0, 0, 0, 0, 500);
        due("27: 1, 500 and 999", x.judge(3, 2, 999, 0), 0);
        x.day(5);
        x.out(5);
        due("27: out", x.judge(0, 105, 300, 1), 3);
        due("27: the same", x.judge(0, 5, 5, 0), BAD);
        due("27: first below", x.judge(0, 0, 5, 0), BAD);
        due("27: second above", x.judge(0, 5, 1000, 0), BAD);
        due("27: turned", x.judge(0, 6, 5, 0), BAD);
        due("27: measure below", x.judge(-1, 5, 6, 0), BAD);
        due("27: measure above", x.judge(4, 5, 6, 0), BAD);
        due("27: what below", x.judge(0, 5, 6, -1), BAD);
        due("27: what above", x.judge(0, 5, 6, 2), BAD);
    }

    private static void promise28() {
        ElevenMeasures x = Check.room("keep 5;");
        Check.plain(x, 0, 100, 0, 0, 0);
        Check.plain(x, 0, 900, 0, 0, 0);
        due("28: no telling", x.hold(0), STATE);
        due("28: no card", x.hold(2), BAD);
        due("28: below", x.hold(-1), BAD);
        x.tell(3, 101, 0, 0, 0);
        due("28: none of the matches", x.hold(1), STATE);
        for (int h = 0; h < 12; h++) {
            due("28: hold " + h, x.hold(0), h);
        }
        due("28: full", x.hold(0), FULL);
        due("28: state ahead of full", x.hold(1), STATE);
        due("28: twelve", x.count(6), 12);
        x.day(5);
        x.out(0);
        due("28: out", x.hold(0), STATE);
    }

    private static void promise29() {
        ElevenMeasures x = Check.room("keep 3;");
        Check.plain(x, 0, 100, 0, 0, 0);
        Check.plain(x, 0, 105, 0, 0, 0);
        Check.plain(x, 0, 110, 0, 0, 0);
        x.tell(4, 105, 0, 0, 0);
        x.hold(0);
        x.day(2);
        x.hold(1);
        x.hold(2);
        x.tell(5, 103, 0, 0, 0);
        x.hold(0);
        int[][] rows = {{0, 0, 4, 0, 2, 10}, {1, 2, 4, 0, 2, 12}, {2, 2, 4, 0, 1, 2},
            {0, 2, 5, 0, 1, 2}};
        for (int h = 0; h < rows.length; h++) {
            for (int what = 0; what < 6; what++) {
                due("29: held " + h + ", " + what, x.held(h, what), rows[h][what]);
            }
        }
        x.bar(0, 1, true);
        due("29: joins it now", x.held(0, 5), 8);
        x.bar(0, 1, false);
        x.day(3);
        x.out(0);
        due("29: the same card, though out", x.held(0, 5), 8);
        x.wrong(3);
        due("29: wrong", x.held(3, 3), 1);
        due("29: a wrong one leans too", x.held(0, 4), 1);
        due("29: no hold", x.held(4, 0), BAD);
        due("29: below", x.held(-1, 0), BAD);
        due("29: what below", x.held(0, -1), BAD);
        due("29: what above", x.held(0, 6), BAD);
    }

    private static void promise30() {
        ElevenMeasures x = new ElevenMeasures();
        due("30: no hold", x.wrong(0), BAD);
        Check.plain(x, 0, 100, 0, 0, 0);
        x.tell(0, 100, 0, 0, 0);
        x.hold(0);
        x.day(1);
        x.hold(0);
        x.hold(0);
        due("30: leaned", x.wrong(0), 2);
        due("30: the later ones", x.wrong(2), 1);
        due("30: told already", x.wrong(0), STATE);
        due("30: wrong ones", x.count(7), 2);
        due("30: below", x.wrong(-1), BAD);
        due("30: above", x.wrong(3), BAD);
        ElevenMeasures y = new ElevenMeasures();
        Check.plain(y, 0, 100, 0, 0, 0);
        y.tell(0, 100, 0, 0, 0);
        y.hold(0);
        y.hold(0);
        due("30: an earlier one of the same day", y.wrong(1), 1);
    }

    private static void promise31() {
        ElevenMeasures x = new ElevenMeasures();
        due("31: below 0", x.sheet(0, 0, -1), -14);
        due("31: nothing then", x.count(11), NONE);
        due("31: least", x.sheet(0, 0, 0), 1);
        due("31: no cells", x.count(11), 0);
        due("31: most", x.sheet(0, 2, 96), 1);
        due("31: 96", x.count(11), 96);
        due("31: more", x.sheet(0, 0, 97), BAD);
        due("31: sheet below", x.sheet(-1, 0, 1), BAD);
        due("31: sheet above", x.sheet(4, 0, 1), BAD);
        due("31: lane below", x.sheet(0, -1, 1), BAD);
        due("31: lane above", x.sheet(0, 3, 1), BAD);
        due("31: bad first", x.sheet(4, 0, -1), BAD);
        due("31: least int", x.sheet(0, 0, Integer.MIN_VALUE), -14);
        x.lay(0, 3, 77);
        due("31: stays", x.count(11), 96);
        x.lay(0, 0, 78);
        due("31: anew", x.sheet(0, 2, 4), 1);
        x.read(0, 0, 2, 0, 1);
        due("31: cells are 0 again", x.of(0, 5), 0);
        due("31: the first as well", x.of(0, 2), 0);
    }

    private static void promise32() {
        ElevenMeasures x = new ElevenMeasures();
        due("32: nothing", x.lay(3, 0, 1), -11);
        due("32: nothing, ahead of the index", x.lay(3, -1, 1), -11);
        due("32: below", x.lay(-1, 0, 1), BAD);
        due("32: above", x.lay(4, 0, 1), BAD);
        for (int lane = 0; lane < 3; lane++) {
            x.sheet(lane, lane, 4);
            due("32: laid", x.lay(lane, 0, 70000 * 65536 + 300), 1);
            due("32: last", x.lay(lane, 3, 65536 + 129), 1);
            due("32: index", x.lay(lane, 4, 0), -12);
            due("32: index below", x.lay(lane, -1, 0), -12);
        }
        x.lay(2, 0, 301);
        x.lay(2, 3, 129);
        for (int lane = 0; lane < 3; lane++) {
            due("32: whole", x.read(0, lane, lane, 0, 1), 1);
        }
        due("32: a byte", x.of(0, 2), 300 - 256);
        due("32: a byte below 0", x.of(0, 5), 0);
        due("32: a short", x.of(1, 2), 300);
        due("32: a short of 129", x.of(1, 5), 129);
        due("32: an int", x.of(2, 2), 301);
        x.lay(2, 0, 65536);
        due("32: an int is whole", x.read(0, 2, 2, 0, 1), -20);
    }

    private static void promise33() {
        ElevenMeasures x = Check.room("from 7 edge a 50 60;");
        x.day(7);
        due("33: n 0 of nothing", x.read(0, 1, 1, -5, 0), 0);
        due("33: nothing", x.read(0, 1, 1, -5, 1), 0);
        due("33: null", x.torn(), 1);
        x.sheet(0, 1, 13);
        int[] cells = {9, 55, 400, 999, -1, 70, 0, -32768, 5, 1000, 1, 2, 3};
        for (int i = 0; i < cells.length; i++) {
            x.lay(0, i, cells[i]);
        }
        due("33: two", x.read(4, 0, 1, 1, 1), 1);
        int[] want = {4, 0, 55, 400, 999, 0, 0, 7, 14};
        for (int what = 0; what < want.length; what++) {
            due("33: of 0, " + what, x.of(0, what), want[what]);
        }
        due("33: above 999", x.read(4, 0, 1, 1, 3), -28);
        due("33: none came", x.count(0), 1);
        due("33: above 999 at once", x.read(4, 0, 1, 9, 1), -20);
        x.lay(0, 9, 1);
        due("33: torn, the whole came", x.read(4, 0, 1, 3, 4), 2);
        due("33: index", x.torn(), 2);
        due("33: cards", x.count(0), 3);
        due("33: not taken below 0", x.of(1, 3), 0);
        x.lay(0, 12, 1000);
        due("33: above 999 ahead of the index", x.read(4, 0, 1, 12, 1), -20);
        due("33: index first", x.read(4, 0, 1, -1, 4), 0);
        due("33: far index", x.read(4, 0, 1, Integer.MAX_VALUE, 4), 0);
        due("33: another lane", x.read(4, 0, 2, 12, 1), 0);
        due("33: cast", x.torn(), 3);
        due("33: n 0 of another lane", x.read(4, 0, 2, 99, 0), 0);
        due("33: no fault", x.torn(), 0);
        due("33: hand", x.read(-1, 0, 1, 0, 0), BAD);
        due("33: hand above", x.read(6, 0, 1, 0, 0), BAD);
        due("33: sheet", x.read(0, -1, 1, 0, 0), BAD);
        due("33: sheet above", x.read(0, 4, 1, 0, 0), BAD);
        due("33: lane", x.read(0, 0, -1, 0, 0), BAD);
        due("33: lane above", x.read(0, 0, 3, 0, 0), BAD);
        due("33: n", x.read(0, 0, 1, 0, -1), BAD);
        due("33: n above", x.read(0, 0, 1, 0, 25), BAD);
    }

    private static void promise33Full() {
        ElevenMeasures x = new ElevenMeasures();
        x.sheet(0, 0, 96);
        due("33: 24 at once", x.read(0, 0, 0, 0, 24), 24);
        due("33: full", x.read(0, 0, 0, 0, 1), FULL);
        due("33: n 0 of a full room", x.read(0, 0, 0, 0, 0), 0);
        ElevenMeasures y = new ElevenMeasures();
        y.sheet(0, 2, 96);
        y.read(0, 0, 2, 0, 23);
        y.lay(0, 8, 1000);
        due("33: full is met first", y.read(0, 0, 2, 0, 3), FULL);
        due("33: above 999 is met first", y.read(0, 0, 2, 1, 3), -27);
        due("33: none came", y.count(0), 23);
        due("33: the index is met first", y.read(0, 0, 2, 90, 3), 1);
        due("33: the last came", y.count(0), 24);
        due("33: no card is whole", y.read(0, 0, 2, 94, 3), 0);
        due("33: torn", y.torn(), 2);
    }

    private static void promise34() {
        ElevenMeasures x = new ElevenMeasures();
        due("34: none yet", x.torn(), 0);
        x.read(0, 0, 0, 0, 1);
        due("34: null", x.torn(), 1);
        x.read(6, 0, 0, 0, 1);
        due("34: a bad one leaves it", x.torn(), 1);
        x.sheet(0, 2, 4);
        x.lay(0, 3, 1000);
        x.read(0, 0, 2, 0, 1);
        due("34: one above 999 leaves it", x.torn(), 1);
        x.lay(0, 3, 999);
        x.read(0, 0, 2, 0, 1);
        due("34: a whole one", x.torn(), 0);
        x.read(0, 0, 2, 1, 1);
        due("34: index", x.torn(), 2);
        x.read(0, 0, 1, 1, 1);
        due("34: cast", x.torn(), 3);
    }

    private static void promise35Elsewhere() {
        ElevenMeasures x = Check.room("from 1 edge a 400 998;from 1 edge b 400 998;"
                + "from 1 edge c 400 998;from 2 edge a 5 6;");
        Check.plain(x, 0, 350, 350, 350, 0);
        Check.plain(x, 0, 5, 100, 100, 0);
        Check.plain(x, 0, 999, 999, 999, 0);
        x.day(1);
        due("35: out of drawer 13", x.count(3), 1);
        x.day(2);
        due("35: out of drawers 0 and 13", x.count(3), 2);
        due("35: out of drawer 0", x.drawer(0, 2), 1);
    }

    private static void promise35() {
        ElevenMeasures x = Check.room("keep 4;from 3 edge a 50 60;other 1;");
        Check.plain(x, 0, 100, 0, 0, 0);
        Check.plain(x, 0, 100, 0, 0, 0);
        Check.plain(x, 0, 40, 0, 0, 0);
        x.day(4);
        Check.plain(x, 0, 100, 0, 0, 0);
        x.tell(0, 100, 0, 0, 0);
        x.hold(3);
        x.hold(0);
        x.hold(0);
        x.wrong(0);
        x.out(1);
        x.bar(0, 1, true);
        x.bar(1, 2, true);
        x.bar(1, 3, true);
        x.bar(1, 3, false);
        x.anew(3, 3, 1);
        x.anew(2, 3, 1);
        x.anew(2, 3, 1);
        x.anew(2, 3, 1);
        x.feed(0);
        x.sheet(0, 0, 5);
        int[] want = {4, 1, 2, 1, 3, 4, 3, 1, 2, 4, 8, 5};
        for (int what = 0; what < want.length; what++) {
            due("35: count " + what, x.count(what), want[what]);
        }
        due("35: below", x.count(-1), BAD);
        due("35: above", x.count(12), BAD);
    }
}
