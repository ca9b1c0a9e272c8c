import java.math.BigInteger;
import java.util.ArrayList;
import java.util.Arrays;
import java.util.Comparator;
import java.util.List;
import java.util.TreeSet;

/**
 * The document once more, as plainly and slowly as it can be said, with the whole Java library:
 * the model that ModelTest holds the class against. It keeps what was told and works out the rest
 * anew for each call.
 */
final class Model {
    static final int BAD = -1, STATE = -2, FULL = -3, NONE = -4;

    /** A rule that was told: its name with the letter or hand, its day, its numbers. */
    record Line(String key, int from, int one, int two) {
    }

    record Anew(int card, int m, int value, int day) {
    }

    record Hold(int card, int day, int hand) {
    }

    static final class Fault extends Exception {
        private static final long serialVersionUID = 1;
        final int place;
        final int number;

        Fault(int place, int number) {
            this.place = place;
            this.number = number;
        }
    }

    static final class Card {
        int hand, kind, prints, came, drawer;
        boolean out;
        int[] told;
    }

    int today = 0;
    String tape = "";
    List<Line> lines = new ArrayList<>();
    int latestFault = 0;
    final List<Card> cards = new ArrayList<>();
    final List<Anew> anews = new ArrayList<>();
    int tellHand = -1;
    int[] tell = null;
    final TreeSet<Integer> bars = new TreeSet<>();
    final List<Hold> holds = new ArrayList<>();
    final TreeSet<Integer> wrongs = new TreeSet<>();
    final Object[] sheets = new Object[4];
    int latestTorn = 0;

    static boolean in(int v, int least, int greatest) {
        return v >= least && v <= greatest;
    }

    boolean isCard(int c) {
        return in(c, 0, cards.size() - 1);
    }

    int day(int d) {
        if (!in(d, today, 9999)) return BAD;
        int was = today;
        today = d;
        return was;
    }

    int feed(long v) {
        if (tape.length() + 8 > 240) return FULL;
        for (byte b : java.nio.ByteBuffer.allocate(8).putLong(v).array()) tape += (char) (b & 255);
        return tape.length();
    }

    int end(int n) {
        if (!in(n, 0, tape.length())) return BAD;
        int was = tape.length();
        tape = tape.substring(0, n);
        return was;
    }

    // ---- the text, by recursive descent over lazily cut tokens

    private String text;
    private int at;
    private int start;
    private String token;

    private void next() throws Fault {
        while (at < text.length() && text.charAt(at) == ' ') at++;
        start = at;
        java.util.regex.Matcher m =
                java.util.regex.Pattern.compile("[a-z]+|[0-9]+|;").matcher(text);
        m.region(at, text.length());
        if (at == text.length()) {
            token = "";
            return;
        }
        if (!m.lookingAt()) throw new Fault(start, 1);
        token = m.group();
        if (token.matches("[0-9]{5,}")) throw new Fault(start, 1);
        at = m.end();
    }

    private int number(int least, int greatest) throws Fault {
        if (!token.matches("[0-9]+")) throw new Fault(start, 2);
        int v = Integer.parseInt(token);
        if (!in(v, least, greatest)) throw new Fault(start, 3);
        return v;
    }

    private void unlike(List<Line> told, String key, int from) throws Fault {
        for (Line line : told) {
            if (line.key.equals(key) && line.from == from) throw new Fault(start, 5);
        }
    }

    private Line line(List<Line> told) throws Fault {
        int from = 0;
        if (token.equals("from")) {
            next();
            from = number(0, 9999);
            next();
        }
        String rule = token;
        if (!List.of("edge", "spread", "grow", "keep", "other").contains(rule)) {
            throw new Fault(start, 2);
        }
        String key = rule;
        if (rule.equals("edge") || rule.equals("grow")) {
            next();
            if (!token.matches("[a-d]")) throw new Fault(start, 2);
            key = rule + (token.charAt(0) - 'a');
        } else if (rule.equals("spread")) {
            next();
            key = rule + number(0, 5);
        }
        unlike(told, key, from);
        next();
        int one = switch (rule) {
            case "edge" -> number(1, 999);
            case "grow" -> number(0, 50);
            case "keep" -> number(1, 9999);
            default -> number(0, 20);
        };
        next();
        int two = 0;
        if (rule.equals("edge")) {
            two = number(one + 1, 999);
            next();
        }
        if (!token.equals(";")) throw new Fault(start, 2);
        next();
        return new Line(key, from, one, two);
    }

    int text() {
        text = tape;
        tape = "";
        at = 0;
        List<Line> told = new ArrayList<>();
        try {
            // The line's last step reads one token on: a line is told ahead of its fault.
            next();
            while (!token.isEmpty()) {
                boolean begins = token.matches("from|edge|spread|grow|keep|other");
                if (!begins) throw new Fault(start, 2);
                if (told.size() == 16) throw new Fault(start, 4);
                told.add(line(told));
            }
        } catch (Fault fault) {
            latestFault = fault.number;
            return -10 - fault.place;
        }
        latestFault = 0;
        lines = told;
        return told.size();
    }

    int fault() {
        return latestFault;
    }

    int holding(String key, int day, boolean second, int usual) {
        return lines.stream().filter(l -> l.key.equals(key) && l.from <= day)
                .max(Comparator.comparingInt(Line::from)).map(l -> second ? l.two : l.one)
                .orElse(usual);
    }

    int rule(int rule, int day) {
        if (!in(rule, 0, 19) || !in(day, 0, 9999)) return BAD;
        if (rule <= 3) return holding("edge" + rule, day, false, 333);
        if (rule <= 7) return holding("edge" + (rule - 4), day, true, 667);
        if (rule <= 13) return holding("spread" + (rule - 8), day, false, 3);
        if (rule <= 17) return holding("grow" + (rule - 14), day, false, 0);
        return rule == 18 ? holding("keep", day, false, 9999) : holding("other", day, false, 2);
    }

    // ---- cards

    int third(int m, int v) {
        if (v == 0) return 1;
        return v < rule(m, today) ? 0 : v >= rule(4 + m, today) ? 2 : 1;
    }

    int drawerBy(int... v) {
        return 9 * third(0, v[0]) + 3 * third(1, v[1]) + third(2, v[2]);
    }

    int card(int hand, int kind, int m0, int m1, int m2, int m3, int prints) {
        if (!in(hand, 0, 5) || !in(kind, 0, 2) || !in(prints, 0, 1023)) return BAD;
        for (int m : new int[] {m0, m1, m2, m3}) {
            if (!in(m, 0, 999)) return BAD;
        }
        if (cards.size() == 24) return FULL;
        Card card = new Card();
        card.hand = hand;
        card.kind = kind;
        card.prints = prints;
        card.came = today;
        card.told = new int[] {m0, m1, m2, m3};
        card.drawer = drawerBy(card.told);
        cards.add(card);
        return cards.size() - 1;
    }

    int now(int c, int m) {
        return known(c, m, 9999);
    }

    int[] measures(int c) {
        return new int[] {now(c, 0), now(c, 1), now(c, 2), now(c, 3)};
    }

    boolean due(int c) {
        return today - cards.get(c).came >= rule(18, today);
    }

    int spread(int c) {
        Card card = cards.get(c);
        return rule(8 + card.hand, today) + (card.kind == 2 ? rule(19, today) : 0);
    }

    int of(int c, int what) {
        if (!isCard(c) || !in(what, 0, 13)) return BAD;
        Card card = cards.get(c);
        int often = (int) anews.stream().filter(a -> a.card == c).count();
        int[] m = measures(c);
        int[] all = {card.hand, card.kind, m[0], m[1], m[2], m[3], card.prints, card.came,
            card.out ? NONE : card.drawer, drawerBy(m), card.out ? 1 : 0, due(c) ? 1 : 0, spread(c),
            often};
        return all[what];
    }

    int anew(int c, int m, int v) {
        if (!isCard(c) || !in(m, 0, 3) || !in(v, 0, 999)) return BAD;
        if (anews.size() == 40) return FULL;
        int was = now(c, m);
        anews.add(new Anew(c, m, v, today));
        return was;
    }

    int known(int c, int m, int day) {
        if (!isCard(c) || !in(m, 0, 3) || !in(day, 0, 9999)) return BAD;
        if (day < cards.get(c).came) return 0;
        return anews.stream().filter(a -> a.card == c && a.m == m && a.day <= day)
                .reduce((a, b) -> b).map(Anew::value).orElse(cards.get(c).told[m]);
    }

    int file(int c) {
        if (!isCard(c)) return BAD;
        Card card = cards.get(c);
        if (card.out) return STATE;
        int was = card.drawer;
        card.drawer = drawerBy(measures(c));
        return was;
    }

    int out(int c) {
        if (!isCard(c)) return BAD;
        if (cards.get(c).out || !due(c)) return STATE;
        cards.get(c).out = true;
        return 1;
    }

    List<Integer> kept() {
        List<Integer> kept = new ArrayList<>();
        for (int c = 0; c < cards.size(); c++) {
            if (!cards.get(c).out) kept.add(c);
        }
        return kept;
    }

    static int bits(List<Integer> numbers) {
        return numbers.stream().mapToInt(c -> 1 << c).sum();
    }

    List<Integer> filed(List<Integer> drawers) {
        return kept().stream().filter(c -> drawers.contains(cards.get(c).drawer)).toList();
    }

    long elsewhere(List<Integer> of) {
        return of.stream().filter(c -> cards.get(c).drawer != drawerBy(measures(c))).count();
    }

    int drawer(int d, int what) {
        if (!in(d, 0, 26) || !in(what, 0, 2)) return BAD;
        List<Integer> filed = filed(List.of(d));
        return what == 0 ? filed.size() : what == 1 ? bits(filed) : (int) elsewhere(filed);
    }

    // ---- looking

    int tell(int hand, int m0, int m1, int m2, int m3) {
        if (!in(hand, 0, 5)) return BAD;
        for (int m : new int[] {m0, m1, m2, m3}) {
            if (!in(m, 0, 999)) return BAD;
        }
        tellHand = hand;
        tell = new int[] {m0, m1, m2, m3};
        return drawerBy(tell);
    }

    /** Numerator and denominator of a chance, in no terms. */
    BigInteger[] share(int d) {
        int[] thirds = {d / 9, d / 3 % 3, d % 3};
        BigInteger over = BigInteger.ONE;
        BigInteger under = BigInteger.ONE;
        for (int m = 0; m < 3; m++) {
            int in = 0;
            int all = 0;
            if (tell[m] == 0) {
                in = 1;
                all = 3;
            }
            int spread = rule(8 + tellHand, today);
            for (int v = 1; v <= 1100 && tell[m] > 0; v++) {
                if (Math.abs(v - tell[m]) <= spread) {
                    all++;
                    in += third(m, v) == thirds[m] ? 1 : 0;
                }
            }
            over = over.multiply(BigInteger.valueOf(in));
            under = under.multiply(BigInteger.valueOf(all));
        }
        return new BigInteger[] {over, under};
    }

    static long lowest(BigInteger over, BigInteger under, int what) {
        BigInteger common = over.gcd(under);
        return (what == 0 ? over : under).divide(common).longValueExact();
    }

    long chance(int d, int what) {
        if (!in(d, 0, 26) || !in(what, 0, 1)) return BAD;
        if (tell == null) return STATE;
        BigInteger[] share = share(d);
        return lowest(share[0], share[1], what);
    }

    List<Integer> look(int p) {
        BigInteger[] over = new BigInteger[27];
        List<Integer> order = new ArrayList<>();
        for (int d = 0; d < 27; d++) {
            over[d] = share(d)[0];
            order.add(d);
        }
        BigInteger under = share(0)[1];
        order.sort((a, b) -> over[b].compareTo(over[a]));
        List<Integer> taken = new ArrayList<>();
        BigInteger left = under;
        for (int d : order) {
            BigInteger allowed = under.multiply(BigInteger.valueOf(p));
            if (left.multiply(BigInteger.valueOf(1000)).compareTo(allowed) <= 0) break;
            taken.add(d);
            left = left.subtract(over[d]);
        }
        return taken;
    }

    int look(int p, int what) {
        if (!in(p, 0, 999) || !in(what, 0, 2) && !in(what, 10, 36)) return BAD;
        if (tell == null) return STATE;
        List<Integer> taken = look(p);
        if (what >= 10) return what - 10 < taken.size() ? taken.get(what - 10) : NONE;
        return what == 0 ? taken.size() : what == 1 ? bits(taken) : filed(taken).size();
    }

    int canBe(int c, int m, int day) {
        int told = now(c, m);
        Card card = cards.get(c);
        if (told == 0 || card.kind != 1) return told;
        return told + Math.floorDiv(rule(14 + m, day) * (day - card.came), 100);
    }

    /** NONE: it can not be the man of a telling by these measures, with this spread. */
    int miss(int c, int[] v, int spread) {
        if (cards.get(c).out) return NONE;
        int sum = 0;
        for (int m = 0; m < 4; m++) {
            int least = now(c, m);
            int greatest = canBe(c, m, today);
            if (v[m] == 0 || least == 0) continue;
            if (v[m] < least - spread - spread(c) || v[m] > greatest + spread + spread(c)) return NONE;
            sum += v[m] < least ? least - v[m] : v[m] > greatest ? v[m] - greatest : 0;
        }
        return sum;
    }

    List<Integer> matches() {
        return kept().stream().filter(c -> missOf(c) != NONE)
                .sorted(Comparator.comparingInt(this::missOf)).toList();
    }

    int missOf(int c) {
        return miss(c, tell, rule(8 + tellHand, today));
    }

    int match(int what) {
        if (!in(what, 0, 1) && !in(what, 10, 33) && !(what >= 50 && isCard(what - 50))) return BAD;
        if (tell == null) return STATE;
        List<Integer> matches = matches();
        if (what >= 50) return missOf(what - 50);
        if (what >= 10) return what - 10 < matches.size() ? matches.get(what - 10) : NONE;
        return what == 0 ? matches.size() : bits(matches);
    }

    long byChance(int what) {
        if (!in(what, 0, 1)) return BAD;
        if (tell == null) return STATE;
        List<Integer> kept = kept();
        if (kept.isEmpty()) return NONE;
        BigInteger all = BigInteger.valueOf(kept.size());
        BigInteger over = all;
        BigInteger under = BigInteger.ONE;
        for (int m = 0; m < 4; m++) {
            int k = m;
            if (tell[m] == 0) continue;
            long near = kept.stream().filter(c -> now(c, k) > 0
                    && Math.abs(now(c, k) - tell[k]) <= rule(8 + tellHand, today)).count();
            over = over.multiply(BigInteger.valueOf(near));
            under = under.multiply(all);
        }
        return lowest(over, under, what);
    }

    int grown(int c, int m, int day) {
        if (!isCard(c) || !in(m, 0, 3) || !in(day, cards.get(c).came, 9999)) return BAD;
        return canBe(c, m, day);
    }

    int beside(int ones, int p, int what) {
        if (!in(ones, 0, 10) || !in(p, 0, 999) || !in(what, 0, 3)) return BAD;
        if (tell == null) return STATE;
        List<Integer> byLook = filed(look(p));
        List<Integer> byPrints = kept().stream()
                .filter(c -> Integer.bitCount(cards.get(c).prints) == ones).toList();
        List<Integer> matches = matches();
        List<Integer> turned = what % 2 == 0 ? byLook : byPrints;
        return what < 2 ? turned.size() : (int) turned.stream().filter(matches::contains).count();
    }

    // ---- one man

    static int pair(int c, int d) {
        return 100 * Math.min(c, d) + Math.max(c, d);
    }

    int bar(int c, int d, boolean is) {
        if (!isCard(c) || !isCard(d) || c == d) return BAD;
        boolean was = is ? !bars.add(pair(c, d)) : bars.remove(pair(c, d));
        return was ? 1 : 0;
    }

    boolean joins(int c, int d) {
        return !cards.get(c).out && !cards.get(d).out && !bars.contains(pair(c, d))
                && miss(c, measures(d), spread(d)) != NONE && miss(d, measures(c), spread(c)) != NONE;
    }

    int join(int c, int d) {
        if (!isCard(c) || !isCard(d) || c == d) return BAD;
        return joins(c, d) ? 1 : 0;
    }

    /** Cards that hang together with one, by a search from it. */
    TreeSet<Integer> man(int c) {
        TreeSet<Integer> man = new TreeSet<>();
        List<Integer> open = new ArrayList<>(List.of(c));
        while (!open.isEmpty()) {
            int next = open.remove(0);
            if (!man.add(next)) continue;
            for (int d : kept()) {
                if (d != next && joins(next, d)) open.add(d);
            }
        }
        return man;
    }

    int men(int what) {
        if (!in(what, 0, 2) && !(what >= 10 && isCard(what - 10))) return BAD;
        if (what >= 10) return cards.get(what - 10).out ? NONE : man(what - 10).first();
        List<TreeSet<Integer>> men = kept().stream().map(this::man).distinct().toList();
        if (what == 0) return men.size();
        if (what == 1) return men.stream().mapToInt(TreeSet::size).max().orElse(0);
        return (int) bars.stream().filter(b -> men.stream()
                .anyMatch(m -> m.contains(b / 100) && m.contains(b % 100))).count();
    }

    int guess(int hand, int m, int what) {
        if (!in(hand, 0, 5) || !in(m, 0, 3) || !in(what, 0, 2)) return BAD;
        int sum = 0;
        int often = 0;
        for (int c : kept()) {
            if (cards.get(c).hand != hand || now(c, m) == 0) continue;
            for (int d : man(c)) {
                if (cards.get(d).hand == hand || now(d, m) == 0) continue;
                often++;
                sum += Math.abs(now(c, m) - now(d, m));
            }
        }
        if (what == 2) return often;
        if (often == 0) return NONE;
        return (int) lowest(BigInteger.valueOf(sum), BigInteger.valueOf(often), what);
    }

    // ---- edges

    List<Integer> counted(int m) {
        return kept().stream().filter(c -> now(c, m) > 0).toList();
    }

    int uneven(int m, int one, int two) {
        int[] thirds = new int[3];
        for (int c : counted(m)) thirds[now(c, m) < one ? 0 : now(c, m) < two ? 1 : 2]++;
        Arrays.sort(thirds);
        return thirds[2] - thirds[0];
    }

    int near(int m, int one, int two) {
        return (int) counted(m).stream().filter(c -> Math.abs(now(c, m) - one) <= spread(c)
                || Math.abs(now(c, m) - two) <= spread(c)).count();
    }

    private String evenFor = "";
    private int[] evenEdges;

    int even(int m, int step, int what) {
        if (!in(m, 0, 3) || !in(step, 10, 100) || !in(what, 0, 3)) return BAD;
        if (counted(m).isEmpty()) return NONE;
        StringBuilder state = new StringBuilder(m + " " + step);
        for (int c : counted(m)) state.append(" ").append(now(c, m)).append("/").append(spread(c));
        if (!evenFor.contentEquals(state)) {
            evenFor = state.toString();
            evenEdges = searchEven(m, step);
        }
        return evenEdges[what];
    }

    private int[] searchEven(int m, int step) {
        List<int[]> all = new ArrayList<>();
        for (int one = step; one <= 999; one += step) {
            for (int two = one + step; two <= 999; two += step) {
                all.add(new int[] {one, two, uneven(m, one, two), 0});
            }
        }
        int least = all.stream().mapToInt(e -> e[2]).min().orElseThrow();
        all.removeIf(e -> e[2] != least);
        for (int[] e : all) e[3] = near(m, e[0], e[1]);
        return all.stream().min(Comparator.<int[]>comparingInt(e -> e[3])
                .thenComparingInt(e -> e[0]).thenComparingInt(e -> e[1])).orElseThrow();
    }

    int judge(int m, int one, int two, int what) {
        if (!in(m, 0, 3) || !in(one, 1, 999) || !in(two, 1, 999) || two <= one || !in(what, 0, 1)) {
            return BAD;
        }
        return what == 0 ? uneven(m, one, two) : near(m, one, two);
    }

    // ---- held

    int hold(int c) {
        if (!isCard(c)) return BAD;
        if (tell == null || !matches().contains(c)) return STATE;
        if (holds.size() == 12) return FULL;
        holds.add(new Hold(c, today, tellHand));
        return holds.size() - 1;
    }

    List<Integer> leaned(int h) {
        List<Integer> leaned = new ArrayList<>();
        Hold one = holds.get(h);
        for (int i = 0; i < holds.size(); i++) {
            Hold two = holds.get(i);
            if (i == h || two.day < one.day) continue;
            if (two.card == one.card || joins(one.card, two.card)) leaned.add(i);
        }
        return leaned;
    }

    int held(int h, int what) {
        if (!in(h, 0, holds.size() - 1) || !in(what, 0, 5)) return BAD;
        Hold one = holds.get(h);
        int[] all = {one.card, one.day, one.hand, wrongs.contains(h) ? 1 : 0, leaned(h).size(),
            bits(leaned(h))};
        return all[what];
    }

    int wrong(int h) {
        if (!in(h, 0, holds.size() - 1)) return BAD;
        if (!wrongs.add(h)) return STATE;
        return leaned(h).size();
    }

    // ---- sheets: the real machine is asked, and what it throws is the fault

    int sheet(int k, int lane, int n) {
        if (!in(k, 0, 3) || !in(lane, 0, 2) || n > 96) return BAD;
        try {
            sheets[k] = lane == 0 ? new byte[n] : lane == 1 ? new short[n] : new int[n];
            return 1;
        } catch (NegativeArraySizeException e) {
            return -14;
        }
    }

    int lay(int k, int i, int v) {
        if (!in(k, 0, 3)) return BAD;
        try {
            if (sheets[k] instanceof byte[] b) b[i] = (byte) v;
            else if (sheets[k] instanceof short[] s) s[i] = (short) v;
            else ((int[]) sheets[k])[i] = v;
            return 1;
        } catch (NullPointerException e) {
            return -11;
        } catch (ArrayIndexOutOfBoundsException e) {
            return -12;
        }
    }

    private static int cell(Object sheet, int lane, int i) {
        return lane == 0 ? ((byte[]) sheet)[i] : lane == 1 ? ((short[]) sheet)[i] : ((int[]) sheet)[i];
    }

    int read(int hand, int k, int lane, int f, int n) {
        if (!in(hand, 0, 5) || !in(k, 0, 3) || !in(lane, 0, 2) || !in(n, 0, 24)) return BAD;
        List<int[]> whole = new ArrayList<>();
        int found = 0;
        try {
            for (int j = 0; j < n; j++) {
                int[] row = new int[4];
                for (int m = 0; m < 4; m++) {
                    int v = cell(sheets[k], lane, f + 4 * j + m);
                    if (v > 999) return -20 - 4 * j - m;
                    row[m] = Math.max(0, v);
                }
                whole.add(row);
                if (cards.size() + whole.size() > 24) return FULL;
            }
        } catch (NullPointerException e) {
            found = 1;
        } catch (ArrayIndexOutOfBoundsException e) {
            found = 2;
        } catch (ClassCastException e) {
            found = 3;
        }
        for (int[] row : whole) card(hand, 0, row[0], row[1], row[2], row[3], 0);
        latestTorn = found;
        return whole.size();
    }

    int torn() {
        return latestTorn;
    }

    int count(int what) {
        return switch (what) {
            case 0 -> cards.size();
            case 1 -> cards.size() - kept().size();
            case 2 -> (int) kept().stream().filter(this::due).count();
            case 3 -> (int) elsewhere(kept());
            case 4 -> lines.size();
            case 5 -> anews.size();
            case 6 -> holds.size();
            case 7 -> wrongs.size();
            case 8 -> bars.size();
            case 9 -> today;
            case 10 -> tape.length();
            case 11 -> sheets[0] == null ? NONE : java.lang.reflect.Array.getLength(sheets[0]);
            default -> BAD;
        };
    }
}
