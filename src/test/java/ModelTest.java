import java.lang.reflect.Method;
import java.util.ArrayList;
import java.util.Arrays;
import java.util.List;
import java.util.Random;

/** Random runs of 512 calls, each answer held against that of the model. */
public final class ModelTest {
    private static final int RUNS = 400;
    private static final int CALLS = 512;

    private final Random random;
    private final ElevenMeasures x = new ElevenMeasures();
    private final Model model = new Model();
    private final StringBuilder story = new StringBuilder();
    /** Where measures gather in this run, so that cards come near to one another. */
    private final int centre;
    private final int width;
    /** The sheet that the next read() is of. */
    private int readOf;

    private ModelTest(int seed) {
        random = new Random(seed);
        centre = 1 + random.nextInt(999);
        width = new int[] {4, 12, 60, 400}[random.nextInt(4)];
    }

    public static void main(String[] args) throws Exception {
        long calls = 0;
        for (int seed = 0; seed < RUNS; seed++) {
            ModelTest run = new ModelTest(seed);
            for (int i = 0; i < CALLS; i++) {
                if (!run.step()) {
                    System.out.println("run " + seed + " differs:\n" + run.story);
                    System.exit(1);
                }
                calls++;
            }
        }
        System.out.println(calls + " calls answered as the model answers");
    }

    private boolean step() throws Exception {
        if (random.nextInt(40) == 0) {
            return wholeText();
        }
        Method[] methods = METHODS;
        Method method = methods[random.nextInt(methods.length)];
        if (method.getName().equals("text") && random.nextInt(4) > 0) {
            return true;
        }
        Class<?>[] kinds = method.getParameterTypes();
        Object[] values = new Object[kinds.length];
        readOf = random.nextInt(4);
        for (int i = 0; i < kinds.length; i++) {
            values[i] = kinds[i] == long.class ? (Object) random.nextLong()
                    : kinds[i] == boolean.class ? (Object) (random.nextInt(3) > 0)
                    : (Object) number(method.getName(), i);
        }
        return same(method.getName(), kinds, values);
    }

    private boolean same(String name, Class<?>[] kinds, Object... values) throws Exception {
        long got = ((Number) ElevenMeasures.class.getMethod(name, kinds).invoke(x, values)).longValue();
        Method other = Model.class.getDeclaredMethod(name, kinds);
        other.setAccessible(true);
        long want = ((Number) other.invoke(model, values)).longValue();
        story.append(name).append(Arrays.toString(values)).append(" -> ").append(got);
        story.append(got == want ? "\n" : ", the model: " + want + "\n");
        return got == want;
    }

    private boolean wholeText() throws Exception {
        String text = randomText();
        if (text.length() > 240) {
            return true;
        }
        boolean same = same("end", new Class<?>[] {int.class}, 0);
        for (int i = 0; i < text.length() && same; i += 8) {
            long piece = 0;
            for (int j = i; j < i + 8; j++) {
                piece = piece << 8 | (j < text.length() ? text.charAt(j) : ' ');
            }
            same = same("feed", new Class<?>[] {long.class}, piece);
        }
        story.append("text: ").append(text).append("\n");
        return same && same("end", new Class<?>[] {int.class}, text.length())
                && same("text", new Class<?>[0]) && same("fault", new Class<?>[0])
                && same("count", new Class<?>[] {int.class}, 4);
    }

    private String randomText() {
        StringBuilder text = new StringBuilder();
        int n = random.nextInt(3) == 0 ? random.nextInt(18) : random.nextInt(6);
        boolean isTight = n > 10;
        for (int i = 0; i < n; i++) {
            int day = random.nextInt(2) == 0 ? model.today : random.nextInt(60);
            if (isTight) {
                text.append("from").append(i);
            } else if (random.nextInt(2) == 0) {
                text.append("from ").append(day).append(" ");
            }
            int first = 1 + random.nextInt(998);
            switch (random.nextInt(isTight ? 2 : 7)) {
                case 0 -> text.append("keep").append(1 + random.nextInt(9)).append(";");
                case 1 -> text.append("other").append(random.nextInt(9)).append(";");
                case 2, 3 -> text.append("edge ").append((char) ('a' + random.nextInt(4)))
                        .append(first).append(" ").append(first + 1 + random.nextInt(999 - first))
                        .append("; ");
                case 4, 5 -> text.append("spread ").append(random.nextInt(6)).append(" ")
                        .append(random.nextInt(21)).append(";");
                default -> text.append("grow ").append((char) ('a' + random.nextInt(4)))
                        .append(random.nextInt(51)).append(" ;");
            }
        }
        if (random.nextInt(6) == 0) {
            String[] strays = {"7", " ;", "a", "keeps", "from", "other", "12345", "=", "edge", "  "};
            text.append(strays[random.nextInt(strays.length)]);
        }
        if (random.nextInt(3) == 0 && text.length() > 0) {
            char[] signs = " ;09azd=from1".toCharArray();
            int place = random.nextInt(text.length());
            switch (random.nextInt(3)) {
                case 0 -> text.deleteCharAt(place);
                case 1 -> text.setCharAt(place, signs[random.nextInt(signs.length)]);
                default -> text.insert(place, signs[random.nextInt(signs.length)]);
            }
        }
        return text.toString();
    }

    private int measure() {
        if (random.nextInt(8) == 0) {
            return 0;
        }
        return Math.min(1000, Math.max(0, centre + random.nextInt(2 * width + 1) - width));
    }

    private int today() {
        return Math.max(0, model.today + random.nextInt(40) - 20);
    }

    /** A number that is mostly as told for the call's argument at i. */
    private int number(String name, int i) {
        if (random.nextInt(60) == 0) {
            int[] odd = {-1, Integer.MIN_VALUE, Integer.MAX_VALUE, 1000, 10000, 24, 27, 96, 97, 1024};
            return odd[random.nextInt(odd.length)];
        }
        int card = random.nextInt(model.cards.size() + 1);
        int m = random.nextInt(4);
        return switch (name) {
            case "day" -> model.today + (random.nextInt(3) == 0 ? random.nextInt(30) : 0);
            case "end" -> random.nextInt(model.tape.length() + 1);
            case "rule" -> i == 0 ? random.nextInt(21) : today();
            case "card" -> i == 0 ? random.nextInt(6) : i == 1 ? random.nextInt(3)
                    : i == 6 ? random.nextInt(1024) : measure();
            case "of" -> i == 0 ? card : random.nextInt(15);
            case "anew" -> i == 0 ? card : i == 1 ? m : measure();
            case "known", "grown" -> i == 0 ? card : i == 1 ? m : today();
            case "drawer" -> i == 0 ? random.nextInt(27) : random.nextInt(3);
            case "tell" -> i == 0 ? random.nextInt(6) : measure();
            case "chance" -> i == 0 ? random.nextInt(27) : random.nextInt(2);
            case "look" -> i == 0 ? share() : what(3, 10, 37);
            case "match" -> what(2, random.nextBoolean() ? 10 : 50, 75);
            case "byChance" -> random.nextInt(2);
            case "beside" -> i == 0 ? random.nextInt(11) : i == 1 ? share() : random.nextInt(4);
            case "men" -> what(3, 10, 35);
            case "guess" -> i == 0 ? random.nextInt(6) : i == 1 ? m : random.nextInt(3);
            case "even" -> i == 0 ? m : i == 1 ? 10 + 10 * random.nextInt(9) + random.nextInt(11)
                    : random.nextInt(4);
            case "judge" -> i == 0 ? m : i == 3 ? random.nextInt(2) : Math.max(1, measure() + i * 3);
            case "held" -> i == 0 ? random.nextInt(model.holds.size() + 1) : random.nextInt(6);
            case "wrong" -> random.nextInt(14);
            case "sheet" -> i == 0 ? random.nextInt(4) : i == 1 ? random.nextInt(3)
                    : random.nextInt(97);
            case "lay" -> i == 0 ? random.nextInt(4) : i == 1 ? random.nextInt(30)
                    : random.nextInt(12) == 0 ? random.nextInt(4000) : measure() - random.nextInt(2);
            case "read" -> i == 0 ? random.nextInt(6) : i == 1 ? readOf : i == 2 ? laneOf(readOf)
                    : i == 3 ? random.nextInt(30) : random.nextInt(random.nextInt(9) == 0 ? 25 : 3);
            case "count" -> random.nextInt(13);
            default -> card;
        };
    }

    /** Mostly the lane that a sheet has. */
    private int laneOf(int k) {
        if (random.nextInt(6) == 0) {
            return random.nextInt(3);
        }
        return model.sheets[k] instanceof int[] ? 2 : model.sheets[k] instanceof short[] ? 1 : 0;
    }

    private int share() {
        return random.nextBoolean() ? random.nextInt(1000) : random.nextInt(30);
    }

    private int what(int few, int from, int to) {
        return random.nextBoolean() ? random.nextInt(few) : from + random.nextInt(to - from);
    }

    private static final Method[] METHODS = methods();

    private static Method[] methods() {
        List<Method> all = new ArrayList<>();
        for (Method method : ElevenMeasures.class.getDeclaredMethods()) {
            if (java.lang.reflect.Modifier.isPublic(method.getModifiers())) {
                all.add(method);
            }
        }
        // getDeclaredMethods has no order of its own; a seed must tell the same run each time.
        all.sort(java.util.Comparator.comparing(Method::getName));
        return all.toArray(new Method[0]);
    }
}
