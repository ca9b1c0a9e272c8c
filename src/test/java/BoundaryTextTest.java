import java.util.function.Supplier;

/** The boundary cases that promises 1 to 7 name, and "Terms" of them: day, tape, rules. */
public final class BoundaryTextTest {
    private static final int BAD = -1, STATE = -2, FULL = -3, NONE = -4;

    private BoundaryTextTest() {
    }

    public static void main(String[] args) {
        newObject();
        newObjectHasNoTelling();
        newObjectsShareNothing();
        day();
        feed();
        feedBytes();
        end();
        textAndTape();
        textRefused();
        signs();
        numbers();
        names();
        blanks();
        whatCannotStand();
        theEnd();
        boundsOfRules();
        secondEdge();
        lines();
        toldAlready();
        firstMet();
        fault();
        rule();
        holds();
        Check.close();
    }

    private static void due(String what, long got, long want) {
        Check.due(what, got, want);
    }

    /** A text alone in a new room is told whole: how many lines. */
    private static ElevenMeasures reads(String text, int lines) {
        ElevenMeasures x = new ElevenMeasures();
        due("5: " + text, Check.text(x, text), lines);
        due("6: " + text, x.fault(), 0);
        due("35: lines of " + text, x.count(4), lines);
        return x;
    }

    /** A text alone in a new room has this fault in this place. */
    private static void faults(String text, int place, int fault) {
        ElevenMeasures x = new ElevenMeasures();
        due("5: " + text, Check.text(x, text), -10 - place);
        due("6: " + text, x.fault(), fault);
        due("5: no line is told by " + text, x.count(4), 0);
    }

    // Promise 1: "Nothing; THE DAY 0; no rules told; SHEETS have nothing."
    private static void newObject() {
        ElevenMeasures x = new ElevenMeasures();
        for (int what = 0; what <= 10; what++) {
            due("1: count " + what, x.count(what), 0);
        }
        due("1: SHEET 0 has nothing", x.count(11), NONE);
        for (int k = 0; k < 4; k++) {
            due("1: SHEET " + k + " has nothing to lay", x.lay(k, 0, 1), -10 - 1);
            due("1: SHEET " + k + " has nothing to read", x.read(0, k, 0, 0, 1), 0);
            due("1: by NULL", x.torn(), 1);
        }
        due("1: THE DAY", x.day(0), 0);
        due("1: THE TAPE", x.end(0), 0);
        due("1: no FAULT", x.fault(), 0);
        int[] usual = {333, 333, 333, 333, 667, 667, 667, 667, 3, 3, 3, 3, 3, 3, 0, 0, 0, 0, 9999,
            2};
        for (int rule = 0; rule < usual.length; rule++) {
            due("1: rule " + rule, x.rule(rule, 0), usual[rule]);
            due("1: rule " + rule + ", the last day", x.rule(rule, 9999), usual[rule]);
        }
        for (int d = 0; d < 27; d++) {
            due("1: DRAWER " + d, x.drawer(d, 0), 0);
            due("1: bits of DRAWER " + d, x.drawer(d, 1), 0);
            due("1: elsewhere of DRAWER " + d, x.drawer(d, 2), 0);
        }
    }

    private static void newObjectHasNoTelling() {
        ElevenMeasures x = new ElevenMeasures();
        due("1: torn", x.torn(), 0);
        due("1: chance", x.chance(0, 0), STATE);
        due("1: look", x.look(0, 0), STATE);
        due("1: match", x.match(0), STATE);
        due("1: byChance", x.byChance(0), STATE);
        due("1: beside", x.beside(0, 0, 0), STATE);
        due("1: no CARD is one to hold by", x.hold(0), BAD);
        due("1: of", x.of(0, 0), BAD);
        due("1: anew", x.anew(0, 0, 1), BAD);
        due("1: known", x.known(0, 0, 0), BAD);
        due("1: file", x.file(0), BAD);
        due("1: out", x.out(0), BAD);
        due("1: grown", x.grown(0, 0, 0), BAD);
        due("1: bar", x.bar(0, 1, true), BAD);
        due("1: join", x.join(0, 1), BAD);
        due("1: men", x.men(0), 0);
        due("1: CARDS of the greatest", x.men(1), 0);
        due("1: QUARRELS", x.men(2), 0);
        due("1: no CARD's man", x.men(10), BAD);
        due("1: guess", x.guess(0, 0, 0), NONE);
        due("1: DOUBLES", x.guess(0, 0, 2), 0);
        due("1: even", x.even(0, 10, 0), NONE);
        due("1: judge", x.judge(0, 1, 2, 0), 0);
        due("1: judge, near", x.judge(0, 1, 2, 1), 0);
        due("1: held", x.held(0, 0), BAD);
        due("1: wrong", x.wrong(0), BAD);
    }

    // Promise 1: a new object has nothing, whatever another one has.
    private static void newObjectsShareNothing() {
        ElevenMeasures x = Check.room("keep 7;");
        x.day(5);
        x.feed(1);
        Check.plain(x, 0, 1, 1, 1, 1);
        x.sheet(0, 0, 3);
        x.tell(0, 1, 1, 1, 1);
        x.hold(0);
        newObject();
        newObjectHasNoTelling();
        due("1: the other one stays", x.count(0), 1);
        due("1: its DAY stays", x.count(9), 5);
        due("1: its rule stays", x.rule(18, 0), 7);
    }

    // Promise 2: "THE DAY becomes d, not ahead of it: what it was. BAD." Terms: "0 to 9999".
    private static void day() {
        Twin.bounds("2: day", ElevenMeasures::new, 0, 9999, (x, v) -> x.day(v));
        Supplier<ElevenMeasures> tenth = () -> {
            ElevenMeasures x = busyRoom();
            x.day(10);
            return x;
        };
        Twin.bounds("2: not ahead of THE DAY:", tenth, 10, 9999, (x, v) -> x.day(v));
        ElevenMeasures x = tenth.get();
        due("2: the same day", x.day(10), 10);
        due("2: the next", x.day(11), 10);
        due("2: the last", x.day(9999), 11);
        due("2: the last again", x.day(9999), 9999);
        due("2: ahead of the last", x.day(9998), BAD);
        due("2: beyond the last", x.day(10000), BAD);
        due("2: stays the last", x.count(9), 9999);
    }

    /** A room in which something of each kind is. */
    private static ElevenMeasures busyRoom() {
        ElevenMeasures x = Check.room("from 3 edge a 50 60;keep 2;spread 1 5;grow a 3;other 1;");
        x.card(0, 1, 300, 400, 500, 60, 3);
        x.card(1, 2, 302, 401, 500, 0, 5);
        x.tell(1, 301, 400, 499, 60);
        x.hold(0);
        x.anew(1, 3, 61);
        x.bar(0, 1, true);
        x.sheet(0, 1, 8);
        x.lay(0, 3, 77);
        x.feed(0x6b65657020373b20L);
        return x;
    }

    // Promise 3: "Eight bytes come behind THE TAPE ...: how many it has. FULL: more than 240."
    private static void feed() {
        ElevenMeasures x = new ElevenMeasures();
        for (int i = 1; i <= 30; i++) {
            due("3: feed " + i, x.feed(0x2020202020202020L), 8 * i);
        }
        due("3: 240 is as many as there is room for", x.count(10), 240);
        due("3: one more", x.feed(0), FULL);
        due("3: once more", x.feed(-1), FULL);
        due("3: as many as before", x.count(10), 240);
        due("3: blanks as before", x.text(), 0);
        Supplier<ElevenMeasures> full = () -> taped("keep 7;", 240);
        Twin.refused("3: 240 and 8", full, y -> y.feed(0x3b3b3b3b3b3b3b3bL), FULL);
        Supplier<ElevenMeasures> nearly = () -> taped("keep 7;", 233);
        Twin.refused("3: 233 and 8", nearly, y -> y.feed(0x3b3b3b3b3b3b3b3bL), FULL);
        ElevenMeasures y = taped("keep 7;", 232);
        due("3: 232 and 8", y.feed(0x6f7468657220353bL), 240);
        due("3: the last eight bytes count", y.text(), 2);
        due("3: they are told", y.rule(19, 0), 5);
    }

    /** A text and blanks behind it on the tape, so many bytes in all. */
    private static ElevenMeasures taped(String text, int length) {
        ElevenMeasures x = busyRoom();
        x.end(0);
        StringBuilder all = new StringBuilder(text);
        while (all.length() < length) {
            all.append(' ');
        }
        Check.tape(x, all.toString());
        return x;
    }

    // Promise 3: "the highest first"; Terms: places from 0, tokens of bytes.
    private static void feedBytes() {
        for (int place = 0; place < 8; place++) {
            for (int sign : new int[] {0, 127, 128, 255}) {
                ElevenMeasures x = new ElevenMeasures();
                int shift = 8 * (7 - place);
                x.feed(0x2020202020202020L & ~(255L << shift) | (long) sign << shift);
                due("3: byte " + sign + " in place " + place, x.text(), -10 - place);
                due("3: its FAULT", x.fault(), 1);
            }
        }
        ElevenMeasures x = new ElevenMeasures();
        x.feed(0x2020202020202020L);
        x.feed(Long.MIN_VALUE);
        due("3: the highest byte of the least long", x.text(), -10 - 8);
        due("3: all ones", x.feed(-1), 8);
        due("3: the first place", x.text(), -10);
    }

    // Promise 4: "THE TAPE keeps its first n bytes: how many it had. BAD."
    private static void end() {
        Twin.bounds("4: end, nothing there yet,", ElevenMeasures::new, 0, 0, (x, v) -> x.end(v));
        Twin.bounds("4: end of 240", () -> taped("keep 7;", 240), 0, 240, (x, v) -> x.end(v));
        Twin.bounds("4: end of 13", () -> taped("keep 7;", 13), 0, 13, (x, v) -> x.end(v));
        ElevenMeasures x = taped("keep 7;keep 8;", 14);
        due("4: all of them", x.end(14), 14);
        due("4: the first seven", x.end(7), 14);
        due("4: what it keeps", x.count(10), 7);
        due("4: not those it had", x.end(8), BAD);
        due("4: told", x.text(), 1);
        due("4: by the first", x.rule(18, 0), 7);
        due("4: empty behind a text", x.end(1), BAD);
        due("4: nothing of nothing", x.end(0), 0);
        ElevenMeasures y = taped("keep 7;", 240);
        y.end(5);
        due("4: comes behind the fifth", y.feed(0x383b202020202020L), 13);
        due("4: what came behind is told", y.text(), 1);
        due("4: as one text", y.rule(18, 0), 8);
    }

    // Promise 5: "THE TAPE (empty then, by a FAULT, too) tells the rules: how many lines".
    private static void textAndTape() {
        ElevenMeasures x = busyRoom();
        due("5: one line", x.text(), 1);
        due("5: empty then", x.count(10), 0);
        due("5: the latest text is all that is told", x.rule(9, 0), 3);
        due("5: an empty tape", x.text(), 0);
        due("5: no line is told", x.count(4), 0);
        due("5: nothing holds", x.rule(18, 0), 9999);
        x.feed(0x6b65657020303b20L);
        due("5: keep 0", x.text(), -10 - 5);
        due("5: empty then, by a FAULT, too", x.count(10), 0);
        due("5: the next text begins in place 0", x.feed(0x6b65657020393b20L), 8);
        due("5: and is told", x.text(), 1);
        due("5: alone", x.rule(18, 0), 9);
    }

    // Promise 5: "-10 less the place of its FAULT: those that were told stay."
    private static void textRefused() {
        String[] texts = {"=", "keep 7;7", "keep 7;keep 8;", "keep 0;", "keep 7", "edge a 5 5;",
            Check.manyLines(17)};
        int[] places = {0, 7, 7, 5, 6, 9, Check.manyLines(16).length()};
        for (int i = 0; i < texts.length; i++) {
            int n = i;
            Supplier<ElevenMeasures> made = () -> taped(texts[n], texts[n].length());
            Twin.unchanged("5: " + texts[i], made, x -> x.text(), -10 - places[i]);
        }
        ElevenMeasures x = busyRoom();
        Check.text(x, "");
        due("5: what was told by a text stays", Check.text(x, "keep 5;other 7;"), 2);
        due("5: a line, then a FAULT", Check.text(x, "keep 6;spread 0 9;other 21;"), -10 - 24);
        due("5: keep stays", x.rule(18, 0), 5);
        due("5: other stays", x.rule(19, 0), 7);
        due("5: no spread came", x.rule(8, 0), 3);
        due("5: two lines stay", x.count(4), 2);
    }

    // Promises 5, 6, Terms: NAMES (a .. z), NUMBERS, one ";", blanks (32); FAULT 1: "no TOKEN".
    private static void signs() {
        for (int sign = 0; sign < 256; sign++) {
            String text = "" + (char) sign;
            if (sign == ' ') {
                reads(text, 0);
                faults("keep 5" + text, 7, 2);
            } else if (sign == ';') {
                faults(text, 0, 2);
                reads("keep 5" + text, 1);
            } else if (sign >= '0' && sign <= '9') {
                faults(text, 0, 2);
                faults("keep 5" + text, 7, 2);
            } else if (sign >= 'a' && sign <= 'z') {
                faults(text, 0, 2);
                faults("keep 5" + text, 6, 2);
            } else {
                faults(text, 0, 1);
                faults("keep 5" + text, 6, 1);
                faults("keep 5;  " + text + text, 9, 1);
            }
        }
    }

    // Promises 5, 6, Terms: NUMBERS (1 to 4 figures); FAULT 1: "a NUMBER that is too long (its
    // first byte)".
    private static void numbers() {
        int[] values = {1, 12, 123, 1234, 9999};
        for (int v : values) {
            due("5: a NUMBER " + v, reads("keep " + v + ";", 1).rule(18, 0), v);
        }
        due("5: four figures, three of them 0", reads("keep 0001;", 1).rule(18, 0), 1);
        due("5: 0009 is 9", reads("from 0009 keep 0070;", 1).rule(18, 9), 70);
        due("5: 0009 is not ahead of 9", reads("from 0009 keep 0070;", 1).rule(18, 8), 9999);
        due("5: HAND 05", reads("spread 05 020;", 1).rule(13, 0), 20);
        faults("keep 00001;", 5, 1);
        faults("keep 10000;", 5, 1);
        faults("keep   99999", 7, 1);
        faults("from 10000 keep 1;", 5, 1);
        faults("1234", 0, 2);
        faults("12345", 0, 1);
        faults("1".repeat(240), 0, 1);
        faults("edge a " + "0".repeat(200) + " 5;", 7, 1);
        // a blank ends a NUMBER: two side by side
        faults("keep 123 4;", 9, 2);
        faults("keep 1234 5;", 10, 2);
        faults("edge a 12;", 9, 2);
        due("5: two NUMBERS", reads("edge a 1 2;", 1).rule(4, 0), 2);
    }

    // Promises 5, 6, Terms: TOKENS "each as long as may be"; FAULT 2: "a NAME that begins no rule".
    private static void names() {
        String[] rules = {"from", "edge", "spread", "grow", "keep", "other"};
        for (String rule : rules) {
            faults(rule.substring(0, rule.length() - 1) + " 1;", 0, 2);
            faults(rule.substring(1) + " 1;", 0, 2);
            faults(rule + "a 1 2;", 0, 2);
            faults("a" + rule + " 1;", 0, 2);
            faults(rule + rule + " 1;", 0, 2);
            faults("from 5 " + rule + "z 1;", 7, 2);
            for (int i = 0; i < rule.length(); i++) {
                faults(rule.substring(0, i) + "x" + rule.substring(i + 1) + " 1;", 0, 2);
            }
        }
        faults("from 1 from 2 keep 1;", 7, 2);
        faults("k".repeat(240), 0, 2);
        faults("keep" + "p".repeat(236), 0, 2);
        // "none is needed, but between two NAMES or two NUMBERS side by side"
        due("5: no blank needed", reads("from7keep5;", 1).rule(18, 7), 5);
        due("5: none behind a LETTER", reads("edge a1 2;", 1).rule(0, 0), 1);
        due("5: none behind a NAME", reads("spread0 9;", 1).rule(8, 0), 9);
        reads("keep5;other5;spread5 5;grow a5;edge a5 6;", 5);
        faults("edgea 1 2;", 0, 2);
        faults("from5keepkeep 5;", 5, 2);
        // "LETTER: a NAME of one letter, a to d"; FAULT 2: "no LETTER"
        char[] letters = {'a', 'b', 'c', 'd'};
        for (char letter : letters) {
            reads("edge " + letter + " 1 2;grow " + letter + " 1;", 2);
            faults("edge " + letter + letter + " 1 2;", 5, 2);
            faults("grow " + letter + letter + " 1;", 5, 2);
        }
        faults("edge e 1 2;", 5, 2);
        faults("grow e 1;", 5, 2);
        faults("grow z 1;", 5, 2);
        faults("edge ` 1 2;", 5, 1);
    }

    // Promise 5, Terms: "any number of blanks (32) ahead of, between, behind them".
    private static void blanks() {
        reads("", 0);
        reads(" ".repeat(240), 0);
        reads("   keep   5   ;   other   5   ;   ", 2);
        due("5: far behind", reads(" ".repeat(233) + "keep 5;", 1).rule(18, 0), 5);
        due("5: far between", reads("keep" + " ".repeat(234) + "5;", 1).rule(18, 0), 5);
        due("5: far ahead", reads("keep 5;" + " ".repeat(233), 1).rule(18, 0), 5);
        faults("keep\t5;", 4, 1);
        faults("keep 5;\n", 7, 1);
    }

    // Promises 5, 6, Terms: FAULT 2, "a TOKEN that can not stand there (...; or the end: the
    // length)", in each place of each rule.
    private static void whatCannotStand() {
        String[][] rules = {{"from", "5", "keep", "5", ";"}, {"edge", "a", "5", "6", ";"},
            {"spread", "5", "5", ";"}, {"grow", "a", "5", ";"}, {"keep", "5", ";"},
            {"other", "5", ";"}};
        String[] strays = {"zz", "7", ";", ""};
        for (String[] rule : rules) {
            StringBuilder ahead = new StringBuilder();
            for (String token : rule) {
                for (String stray : strays) {
                    boolean isNumber = token.equals("5") || token.equals("6");
                    boolean isKind = isNumber ? stray.equals("7") : stray.equals(token);
                    boolean isEmptyText = ahead.length() == 0 && stray.isEmpty();
                    if (!isKind && !isEmptyText) {
                        faults(ahead + stray, ahead.length(), 2);
                    }
                }
                ahead.append(token).append(' ');
            }
            reads(ahead.toString(), 1);
            faults(ahead + ";", ahead.length(), 2);
            faults(ahead + "7", ahead.length(), 2);
        }
    }

    // Promise 5, Terms: FAULT 2 at "the end: the length"; THE TAPE's places are 0 to 239.
    private static void theEnd() {
        faults("keep", 4, 2);
        faults("keep 5", 6, 2);
        faults("keep 5" + " ".repeat(100), 106, 2);
        faults("keep 5" + " ".repeat(234), 240, 2);
        faults(" ".repeat(234) + "keep 5", 240, 2);
        faults(" ".repeat(236) + "from", 240, 2);
        faults(" ".repeat(239) + "=", 239, 1);
        faults(" ".repeat(239) + "a", 239, 2);
        faults(" ".repeat(239) + ";", 239, 2);
        faults("=" + " ".repeat(239), 0, 1);
    }

    // Promises 5 to 7, Terms: each rule's bounds, and FAULT 3, "a NUMBER out of its bounds".
    private static void boundsOfRules() {
        String[] heads = {"keep ", "other ", "grow a ", "grow d ", "spread 0 ", "spread 5 "};
        int[] least = {1, 0, 0, 0, 0, 0};
        int[] greatest = {9999, 20, 50, 50, 20, 20};
        int[] rules = {18, 19, 14, 17, 8, 13};
        for (int i = 0; i < heads.length; i++) {
            due("7: " + heads[i] + least[i],
                    reads(heads[i] + least[i] + ";", 1).rule(rules[i], 0), least[i]);
            due("7: " + heads[i] + greatest[i],
                    reads(heads[i] + greatest[i] + ";", 1).rule(rules[i], 0), greatest[i]);
            if (greatest[i] < 9999) {
                faults(heads[i] + (greatest[i] + 1) + ";", heads[i].length(), 3);
                faults(heads[i] + "9999;", heads[i].length(), 3);
            }
        }
        faults("keep 0;", 5, 3);
        faults("keep 0000;", 5, 3);
        for (int hand = 0; hand < 6; hand++) {
            due("7: HAND " + hand, reads("spread " + hand + " 9;", 1).rule(8 + hand, 0), 9);
        }
        faults("spread 6 1;", 7, 3);
        faults("spread 9999 1;", 7, 3);
        due("7: from 0", reads("from 0 keep 5;", 1).rule(18, 0), 5);
        due("7: from 9999", reads("from 9999 keep 5;", 1).rule(18, 9999), 5);
        due("7: the day ahead", reads("from 9999 keep 5;", 1).rule(18, 9998), 9999);
    }

    // Promises 5 to 7, Terms: "two edges (1 to 999, the second above the first)".
    private static void secondEdge() {
        int[][] taken = {{1, 2}, {1, 999}, {998, 999}, {500, 501}};
        for (int m = 0; m < 4; m++) {
            String head = "edge " + (char) ('a' + m) + " ";
            for (int[] pair : taken) {
                ElevenMeasures x = reads(head + pair[0] + " " + pair[1] + ";", 1);
                due("7: first edge of " + m, x.rule(m, 0), pair[0]);
                due("7: second edge of " + m, x.rule(4 + m, 0), pair[1]);
            }
            faults(head + "0 5;", 7, 3);
            faults(head + "1000 1001;", 7, 3);
            faults(head + "1 0;", 9, 3);
            faults(head + "1 1;", 9, 3);
            faults(head + "500 500;", 11, 3);
            faults(head + "500 499;", 11, 3);
            faults(head + "1 1000;", 9, 3);
            faults(head + "998 1000;", 11, 3);
            faults(head + "999 999;", 11, 3);
            faults(head + "999 1000;", 11, 3);
        }
    }

    // Promises 5, 6, Terms: FAULT 4, "the 17th line (its first TOKEN)".
    private static void lines() {
        for (int n = 0; n <= 16; n++) {
            reads(Check.manyLines(n), n);
        }
        String all = Check.manyLines(16);
        int end = all.length();
        reads(all + " ".repeat(240 - end), 16);
        faults(Check.manyLines(17), end, 4);
        String[] firsts = {"from", "edge", "spread", "grow", "keep", "other"};
        for (String first : firsts) {
            faults(all + first, end, 4);
            faults(all + "   " + first + " 1 2 =", end + 3, 4);
        }
        String[] strays = {"6", "9999", ";", "zz", "keeps"};
        for (String stray : strays) {
            faults(all + "  " + stray, end + 2, 2);
        }
        faults(all + "  =", end + 2, 1);
        faults(all + "  12345", end + 2, 1);
        // a FAULT of the 16th line is its own
        String fifteen = Check.manyLines(15);
        faults(fifteen + "from 15 keep 0;", fifteen.length() + 13, 3);
        faults(fifteen + "from 14 keep 1;", fifteen.length() + 8, 5);
        faults(fifteen + "keep", fifteen.length(), 5);
        faults(fifteen + "other", fifteen.length() + 5, 2);
        ElevenMeasures x = reads(all, 16);
        due("5: sixteen anew, for a text is not told behind another", Check.text(x, all), 16);
        due("5: seventeen", Check.text(x, Check.manyLines(17)), -10 - end);
        due("5: those that were told stay", x.count(4), 16);
        due("5: the last of them", x.rule(18, 15), 1);
    }

    // Promises 5, 6, Terms: FAULT 5, "what is told already from the same day (edge, grow: the
    // LETTER; spread: the HAND, behind 3; else the rule's NAME)".
    private static void toldAlready() {
        for (String letter : new String[] {"a", "b", "c", "d"}) {
            faults("edge " + letter + " 1 2;edge " + letter + " 3 4;", 16, 5);
            faults("grow " + letter + " 1;grow " + letter + " 2;", 14, 5);
            reads("edge " + letter + " 1 2;grow " + letter + " 1;", 2);
        }
        reads("edge a 1 2;edge b 1 2;edge c 1 2;edge d 1 2;", 4);
        reads("grow a 1;grow b 1;grow c 1;grow d 1;keep 1;other 1;", 6);
        for (int hand = 0; hand < 6; hand++) {
            faults("spread " + hand + " 1;spread " + hand + " 2;", 18, 5);
        }
        reads("spread 0 1;spread 1 1;spread 2 1;spread 3 1;spread 4 1;spread 5 1;", 6);
        faults("keep 1;keep 1;", 7, 5);
        faults("other 1;other 2;", 8, 5);
        // the same day: none told is day 0
        faults("keep 1;from 0 keep 2;", 14, 5);
        faults("from 0 keep 1;keep 2;", 14, 5);
        faults("from 0000 keep 1;from 0 keep 2;", 24, 5);
        reads("keep 1;from 1 keep 2;", 2);
        faults("from 9999 other 1;from 9999 other 1;", 28, 5);
        reads("from 9999 other 1;from 9998 other 1;", 2);
        faults("from 3 grow d 1;from 2 grow d 1;from 3 grow d 1;", 44, 5);
        reads("from 3 grow d 1;from 2 grow d 1;from 3 grow c 1;", 3);
        // spread: behind 3
        faults("spread 0 1;spread 6 1;", 18, 3);
        // what an older text told is not told already
        ElevenMeasures x = reads("keep 1;", 1);
        due("5: a text anew", Check.text(x, "keep 2;"), 1);
        due("5: it holds", x.rule(18, 0), 2);
    }

    // Promises 5, 6, Terms: "the first met as it is read (a TOKEN is read when the one before has
    // been taken)".
    private static void firstMet() {
        faults("keep 0 =", 5, 3);
        faults("keep 0=", 5, 3);
        faults("keep = 0", 5, 1);
        faults("keep 1 1 =", 7, 2);
        faults("zz =", 0, 2);
        faults("= zz", 0, 1);
        faults("edge e =", 5, 2);
        faults("edge a 0 =", 7, 3);
        faults("edge a 5 =", 9, 1);
        faults("edge a 5 5 =", 9, 3);
        faults("edge a 5 6 =", 11, 1);
        faults("spread 6 =", 7, 3);
        faults("spread 5 21 =", 9, 3);
        faults("grow a 51 12345", 7, 3);
        faults("grow a 50 12345", 10, 1);
        faults("keep 1;keep =", 7, 5);
        faults("keep 1;keep", 7, 5);
        faults("edge a 1 2;edge a =", 16, 5);
        faults("edge a 1 2;edge a", 16, 5);
        faults("grow b 1;grow b 51;", 14, 5);
        faults("spread 0 1;spread 0 =", 18, 5);
        faults("spread 0 1;spread 0 21;", 18, 5);
        faults("other 21;=", 6, 3);
        faults("from 5 zz =", 7, 2);
        faults("from 12345 zz", 5, 1);
    }

    // Promise 6: "The FAULT of the latest text(); 0."
    private static void fault() {
        ElevenMeasures x = new ElevenMeasures();
        due("6: no text yet", x.fault(), 0);
        String[] texts = {"=", "zz", "keep 0;", Check.manyLines(17), "keep 1;keep 1;"};
        for (int i = 0; i < texts.length; i++) {
            Check.text(x, texts[i]);
            due("6: of " + texts[i], x.fault(), i + 1);
            due("6: again", x.fault(), i + 1);
            x.feed(0x6b65657020393b20L);
            x.end(7);
            due("6: the next text is not told yet", x.fault(), i + 1);
            due("6: it is", x.text(), 1);
            due("6: none", x.fault(), 0);
        }
        Check.text(x, "=");
        due("6: an empty text", x.text(), 0);
        due("6: none by an empty text", x.fault(), 0);
    }

    // Promise 7: "What HOLDS on a day (0 to 9999): rule 0 to 3 ... 19 other. BAD."
    private static void rule() {
        Supplier<ElevenMeasures> busy = BoundaryTextTest::busyRoom;
        Twin.bounds("7: rule", busy, 0, 19, (x, v) -> x.rule(v, 0));
        Twin.bounds("7: day", busy, 0, 9999, (x, v) -> x.rule(0, v));
        Twin.bounds("7: day of other", busy, 0, 9999, (x, v) -> x.rule(19, v));
        ElevenMeasures x = reads("edge a 11 21;edge b 12 22;edge c 13 23;edge d 14 24;spread 0 5;"
                + "spread 1 6;spread 2 7;spread 3 8;spread 4 9;spread 5 10;grow a 31;grow b 32;"
                + "grow c 33;grow d 34;keep 41;other 15;", 16);
        int[] told = {11, 12, 13, 14, 21, 22, 23, 24, 5, 6, 7, 8, 9, 10, 31, 32, 33, 34, 41, 15};
        for (int rule = 0; rule < told.length; rule++) {
            due("7: told " + rule, x.rule(rule, 0), told[rule]);
            due("7: told for ever " + rule, x.rule(rule, 9999), told[rule]);
        }
    }

    // Promise 7, Terms: "the one with the latest from up to it. If none: ...".
    private static void holds() {
        String[] heads = {"edge a 7 ", "spread 5 ", "grow d ", "keep ", "other "};
        int[] rules = {4, 13, 17, 18, 19};
        int[] usual = {667, 3, 0, 9999, 2};
        for (int i = 0; i < heads.length; i++) {
            String late = "from 10 " + heads[i] + "10;";
            String later = "from 11 " + heads[i] + "11;";
            String last = "from 9999 " + heads[i] + "12;";
            String[] texts = {late + later + last, last + late + later, later + last + late,
                last + later + late};
            for (String text : texts) {
                ElevenMeasures x = reads(text, 3);
                due("7: none yet, " + text, x.rule(rules[i], 0), usual[i]);
                due("7: the day ahead, " + text, x.rule(rules[i], 9), usual[i]);
                due("7: that day, " + text, x.rule(rules[i], 10), 10);
                due("7: the next from, " + text, x.rule(rules[i], 11), 11);
                due("7: up to the last day, " + text, x.rule(rules[i], 9998), 11);
                due("7: the last day, " + text, x.rule(rules[i], 9999), 12);
            }
        }
        ElevenMeasures x = reads("from 10 edge b 5 6;from 10 spread 1 9;from 10 grow c 9;", 3);
        int[] others = {0, 2, 3, 4, 6, 7, 8, 10, 13, 14, 15, 17};
        for (int rule : others) {
            due("7: another MEASURE, HAND " + rule, x.rule(rule, 10), x.rule(rule, 0));
        }
    }
}
