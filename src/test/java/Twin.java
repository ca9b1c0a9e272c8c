import java.util.ArrayList;
import java.util.List;
import java.util.function.Supplier;
import java.util.function.ToLongFunction;

/**
 * What is refused changes nothing: a room that refused a call is held against one made alike that
 * was never asked. Each probe gets two rooms of its own, for a probe may change what it asks, and
 * no room is used for more than 512 calls.
 */
final class Twin {
    /** A call with a number whose bounds are looked at. */
    interface Numbered {
        long call(ElevenMeasures x, int v);
    }

    private interface Probe {
        void ask(ElevenMeasures x, List<Long> answers);
    }

    private static final Probe[] PROBES = {Twin::counts, Twin::cards, Twin::known, Twin::looking,
        Twin::men, Twin::bars, Twin::edges, Twin::held, Twin::sheets, Twin::roomLeft};

    private Twin() {
    }

    /** A call is refused with this answer, and a room answers all else as if it had not come. */
    static void refused(String what, Supplier<ElevenMeasures> made,
            ToLongFunction<ElevenMeasures> call, long answer) {
        unchanged(what, made, call, answer);
        same(what, made, call, Twin::tape);
    }

    /** The same, but for THE TAPE and the FAULT of the latest text. */
    static void unchanged(String what, Supplier<ElevenMeasures> made,
            ToLongFunction<ElevenMeasures> call, long answer) {
        Check.due(what, call.applyAsLong(made.get()), answer);
        for (Probe probe : PROBES) {
            same(what, made, call, probe);
        }
    }

    private static void same(String what, Supplier<ElevenMeasures> made,
            ToLongFunction<ElevenMeasures> call, Probe probe) {
        ElevenMeasures asked = made.get();
        call.applyAsLong(asked);
        List<Long> behind = new ArrayList<>();
        probe.ask(asked, behind);
        List<Long> without = new ArrayList<>();
        probe.ask(made.get(), without);
        Check.holds(what + " changes nothing: " + without + ", " + behind, behind.equals(without));
    }

    /** The least and the greatest number are taken; the first beyond each, and far ones, BAD. */
    static void bounds(String what, Supplier<ElevenMeasures> made, int least, int greatest,
            Numbered call) {
        taken(what, made, least, call);
        taken(what, made, greatest, call);
        int[] beyond = {least - 1, greatest + 1, Integer.MIN_VALUE, Integer.MAX_VALUE};
        for (int v : beyond) {
            refused(what + " " + v, made, x -> call.call(x, v), ElevenMeasures.BAD);
        }
    }

    private static void taken(String what, Supplier<ElevenMeasures> made, int v, Numbered call) {
        long answer = call.call(made.get(), v);
        Check.holds(what + " " + v + " is taken: " + answer, answer != ElevenMeasures.BAD);
    }

    private static void counts(ElevenMeasures x, List<Long> answers) {
        for (int what = 0; what < 12; what++) {
            // bytes on the tape are the tape's own probe
            answers.add(what == 10 ? 0 : (long) x.count(what));
        }
        answers.add((long) x.torn());
        int[] days = {0, x.count(9), 9999};
        for (int rule = 0; rule < 20; rule++) {
            for (int day : days) {
                answers.add((long) x.rule(rule, day));
            }
        }
        for (int d = 0; d < 27; d++) {
            answers.add((long) x.drawer(d, 1));
            answers.add((long) x.drawer(d, 2));
        }
        answers.add((long) x.day(0));
    }

    private static void tape(ElevenMeasures x, List<Long> answers) {
        answers.add((long) x.fault());
        answers.add((long) x.count(10));
        answers.add((long) x.text());
        answers.add((long) x.fault());
        for (int rule = 0; rule < 20; rule++) {
            answers.add((long) x.rule(rule, 9999));
        }
    }

    private static void cards(ElevenMeasures x, List<Long> answers) {
        for (int c = 0; c < x.count(0); c++) {
            for (int what = 0; what < 14; what++) {
                answers.add((long) x.of(c, what));
            }
        }
    }

    private static void known(ElevenMeasures x, List<Long> answers) {
        int today = x.count(9);
        int[] days = {Math.max(today - 1, 0), today, 9999};
        for (int c = 0; c < x.count(0); c++) {
            for (int m = 0; m < 4; m++) {
                for (int day : days) {
                    answers.add((long) x.known(c, m, day));
                }
            }
        }
    }

    private static void looking(ElevenMeasures x, List<Long> answers) {
        for (int d = 0; d < 27; d++) {
            answers.add(x.chance(d, 0));
            answers.add(x.chance(d, 1));
        }
        for (int what = 0; what < 75; what++) {
            answers.add((long) x.match(what));
        }
        for (int what = 0; what < 3; what++) {
            answers.add((long) x.look(100, what));
            answers.add((long) x.beside(2, 100, what));
            answers.add(x.byChance(what));
        }
    }

    private static void men(ElevenMeasures x, List<Long> answers) {
        for (int what = 0; what < 35; what++) {
            answers.add((long) x.men(what));
        }
        for (int hand = 0; hand < 6; hand++) {
            for (int m = 0; m < 4; m++) {
                for (int what = 0; what < 3; what++) {
                    answers.add((long) x.guess(hand, m, what));
                }
            }
        }
        for (int c = 0; c < x.count(0); c++) {
            answers.add((long) x.join(0, c));
        }
    }

    private static void bars(ElevenMeasures x, List<Long> answers) {
        int cards = x.count(0);
        for (int c = 0; c < cards; c++) {
            for (int d = c + 1; d < cards; d++) {
                if (answers.size() < 200) {
                    answers.add((long) x.bar(c, d, true));
                }
            }
        }
    }

    private static void edges(ElevenMeasures x, List<Long> answers) {
        for (int m = 0; m < 4; m++) {
            for (int what = 0; what < 4; what++) {
                answers.add((long) x.even(m, 50, what));
                answers.add((long) x.judge(m, 300, 700, what));
            }
        }
    }

    private static void held(ElevenMeasures x, List<Long> answers) {
        for (int h = 0; h < x.count(6); h++) {
            for (int what = 0; what < 6; what++) {
                answers.add((long) x.held(h, what));
            }
        }
    }

    /** What the cells hold is seen by what is read of them, while cards can come. */
    private static void sheets(ElevenMeasures x, List<Long> answers) {
        for (int k = 0; k < 4; k++) {
            for (int lane = 0; lane < 3; lane++) {
                for (int f = 0; f < 2; f++) {
                    int came = x.read(0, k, lane, 4 * f, 1);
                    answers.add((long) came);
                    answers.add((long) x.torn());
                    int last = x.count(0) - 1;
                    for (int m = 0; m < 4; m++) {
                        answers.add((long) x.of(last, 2 + m));
                    }
                }
            }
            for (int i = 0; i < 97; i++) {
                if (i < 4 || i > 94) {
                    answers.add((long) x.lay(k, i, 7));
                }
            }
        }
    }

    /** How many more of each can come. */
    private static void roomLeft(ElevenMeasures x, List<Long> answers) {
        for (int i = 0; i < 25; i++) {
            answers.add((long) x.card(1, 0, 100, 100, 100, 0, 3));
        }
        for (int i = 0; i < 41; i++) {
            answers.add((long) x.anew(0, 3, i));
        }
        for (int i = 0; i < 13; i++) {
            answers.add((long) x.hold(0));
        }
        for (int c = 0; c < 24; c++) {
            answers.add((long) x.file(c));
            answers.add((long) x.out(c));
        }
        for (int h = 0; h < 12; h++) {
            answers.add((long) x.wrong(h));
        }
    }
}
