/** What the project's tests share: answers against those that are due, and texts for the tape. */
final class Check {
    private static int passed = 0;
    private static int failed = 0;

    private Check() {
    }

    static void due(String what, long got, long want) {
        if (got == want) {
            passed++;
        } else {
            failed++;
            System.out.println(what + " answered " + got + ", due is " + want);
        }
    }

    static void holds(String what, boolean is) {
        due(what, is ? 1 : 0, 1);
    }

    /** Prints the sum, and ends the program with 1 if a check failed. */
    static void close() {
        System.out.println(passed + " checks hold, " + failed + " do not");
        if (failed > 0 || passed == 0) {
            System.exit(1);
        }
    }

    /** Puts a text on the tape, which must be empty. */
    static void tape(ElevenMeasures x, String text) {
        for (int i = 0; i < text.length(); i += 8) {
            long piece = 0;
            for (int j = i; j < i + 8; j++) {
                piece = piece << 8 | (j < text.length() ? text.charAt(j) & 255 : ' ');
            }
            x.feed(piece);
        }
        x.end(text.length());
    }

    /** A text of so many lines, 240 bytes long at most by 20 of them. */
    static String manyLines(int n) {
        StringBuilder text = new StringBuilder();
        for (int i = 0; i < n; i++) {
            text.append("from").append(i).append("keep1;");
        }
        return text.toString();
    }

    static int text(ElevenMeasures x, String text) {
        tape(x, text);
        return x.text();
    }

    /** A new room in which a text holds. */
    static ElevenMeasures room(String text) {
        ElevenMeasures x = new ElevenMeasures();
        if (text(x, text) < 0) {
            throw new IllegalStateException("the text has a fault: " + text);
        }
        return x;
    }

    /** Brings a plain card without prints. */
    static int plain(ElevenMeasures x, int hand, int m0, int m1, int m2, int m3) {
        return x.card(hand, 0, m0, m1, m2, m3, 0);
    }
}
