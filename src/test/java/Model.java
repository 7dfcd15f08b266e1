import java.util.ArrayList;
import java.util.Arrays;
import java.util.HashSet;
import java.util.List;
import java.util.Set;
import java.util.TreeMap;
import java.util.function.Predicate;
import java.util.regex.Matcher;
import java.util.regex.Pattern;

/**
 * A second reading of the document that shares no code with IcePalace: slow, with copies of all and sets of
 * objects, so that a slip in one of the two shows as a difference.
 */
final class Model {
    static final int BEYOND = -1000001;
    static final int FULL = -1000002;
    static final int KIND = -1000003;
    static final int NONE = -1000004;
    static final int STATE = -1000005;
    static final int MISSING = -1000006;
    static final int SIZE = -1000007;

    static final List<String> NAMES = List.of("block", "arch", "beam", "throne", "pillar", "lintel", "icicle");

    static final class Ice {
        String kind;
        int row = -1;
        int column = -1;
        int grains;

        boolean gone() {
            return row < 0;
        }

        Ice twin() {
            Ice twin = new Ice();
            twin.kind = kind;
            twin.row = row;
            twin.column = column;
            twin.grains = grains;
            return twin;
        }
    }

    static final class Candle {
        int cell;
        int power;
        boolean lit;

        Candle twin() {
            Candle twin = new Candle();
            twin.cell = cell;
            twin.power = power;
            twin.lit = lit;
            return twin;
        }
    }

    static final class All {
        List<Ice> ices = new ArrayList<>();
        List<Candle> candles = new ArrayList<>();
        Integer[] spots = new Integer[10];
        int cold = -5;
        int hour = 0;
        int air = 0;
        int rubble = 0;
        int z = 1;

        All() {
            for (int i = 0; i < 6; i++) {
                candles.add(new Candle());
            }
        }

        All twin() {
            All twin = new All();
            ices.forEach(i -> twin.ices.add(i.twin()));
            twin.candles.clear();
            candles.forEach(c -> twin.candles.add(c.twin()));
            twin.spots = spots.clone();
            twin.cold = cold;
            twin.hour = hour;
            twin.air = air;
            twin.rubble = rubble;
            twin.z = z;
            return twin;
        }

        Ice at(int row, int column) {
            for (Ice i : ices) {
                if (!i.gone() && i.row == row && i.column == column) {
                    return i;
                }
            }
            return null;
        }

        int warmth(int cell) {
            int sum = cold;
            for (Candle c : candles) {
                if (c.lit) {
                    int far = Math.abs(c.cell / 8 - cell / 8) + Math.abs(c.cell % 8 - cell % 8);
                    sum += c.power / (1 + far);
                }
            }
            return sum;
        }

        int light() {
            return candles.stream().filter(c -> c.lit).mapToInt(c -> c.power).sum();
        }

        boolean standsBy(Ice i, Set<Ice> standing) {
            if (i.gone()) {
                return false;
            }
            if (i.row == 0) {
                return true;
            }
            Predicate<int[]> firm = d -> {
                Ice other = at(i.row + d[0], i.column + d[1]);
                return other != null && standing.contains(other);
            };
            boolean below = firm.test(new int[] {-1, 0});
            boolean left = firm.test(new int[] {0, -1});
            boolean right = firm.test(new int[] {0, 1});
            boolean above = firm.test(new int[] {1, 0});
            return switch (i.kind) {
                case "block", "pillar" -> below;
                case "arch", "throne" -> below || left && right;
                case "beam", "lintel" -> below || left || right;
                default -> above;
            };
        }

        Set<Ice> standing() {
            Set<Ice> standing = new HashSet<>();
            boolean more = true;
            while (more) {
                Set<Ice> next = new HashSet<>(standing);
                for (Ice i : ices) {
                    if (standsBy(i, standing)) {
                        next.add(i);
                    }
                }
                more = next.size() > standing.size();
                standing = next;
            }
            return standing;
        }

        int load(Ice i) {
            Ice above = i.gone() ? null : at(i.row + 1, i.column);
            return above == null ? 0 : above.grains + load(above);
        }

        int strong(Ice i) {
            if (i.gone()) {
                return 0;
            }
            return switch (i.kind) {
                case "throne" -> 4 * i.grains + 20;
                case "pillar" -> 12 * i.grains;
                case "lintel" -> 8 * i.grains;
                default -> 4 * i.grains;
            };
        }

        void go(Ice i) {
            i.row = -1;
            i.column = -1;
            i.grains = 0;
        }

        void fall() {
            while (true) {
                Set<Ice> standing = standing();
                List<Ice> falling = new ArrayList<>();
                for (Ice i : ices) {
                    if (!i.gone() && (!standing.contains(i) || load(i) > strong(i))) {
                        falling.add(i);
                    }
                }
                if (falling.isEmpty()) {
                    return;
                }
                for (Ice i : falling) {
                    rubble += i.grains;
                    go(i);
                }
            }
        }

        void hour() {
            TreeMap<Integer, Integer> warm = new TreeMap<>();
            for (int b = 0; b < ices.size(); b++) {
                Ice i = ices.get(b);
                if (!i.gone()) {
                    warm.put(b, warmth(i.row * 8 + i.column));
                }
            }
            int[] drip = new int[8];
            for (int b : warm.keySet()) {
                Ice i = ices.get(b);
                int w = warm.get(b);
                if (w > 0) {
                    int lost = w > i.grains ? i.grains : w;
                    i.grains -= lost;
                    drip[i.column] += lost / 2;
                    air += lost - lost / 2;
                }
                if (w < 0) {
                    for (int k = 0; k < -w / 2 && air > 0 && i.grains < 99; k++) {
                        air--;
                        i.grains++;
                    }
                }
            }
            for (int column = 0; column < 8; column++) {
                Ice lowest = null;
                for (int b : warm.keySet()) {
                    Ice i = ices.get(b);
                    if (i.column == column && warm.get(b) < 0 && (lowest == null || i.row < lowest.row)) {
                        lowest = i;
                    }
                }
                for (; drip[column] > 0; drip[column]--) {
                    if (lowest != null && lowest.grains < 99) {
                        lowest.grains++;
                    } else {
                        air++;
                    }
                }
            }
            for (Ice i : ices) {
                if (!i.gone() && i.grains == 0) {
                    go(i);
                }
            }
            fall();
            hour++;
        }

        All after(int n) {
            All then = twin();
            for (int i = 0; i < n; i++) {
                then.hour();
            }
            return then;
        }

        long gone() {
            return ices.stream().filter(Ice::gone).count();
        }

        boolean holds(int n) {
            return after(n).gone() == gone();
        }

        int longest() {
            All then = twin();
            for (int i = 0; i < 96; i++) {
                then.hour();
                if (then.gone() > gone()) {
                    return i;
                }
            }
            return 96;
        }

        int goes(int block) {
            All then = twin();
            for (int i = 1; i <= 96; i++) {
                then.hour();
                if (then.ices.get(block).gone()) {
                    return i;
                }
            }
            return 97;
        }

        void dance(int t) {
            for (Ice i : ices) {
                if (!i.gone() && i.grains % t == 0) {
                    i.grains--;
                    air++;
                    if (i.grains == 0) {
                        go(i);
                    }
                }
            }
            fall();
        }

        int set(Predicate<Ice> which) {
            int set = 0;
            for (int b = 0; b < ices.size(); b++) {
                set += which.test(ices.get(b)) ? 1 << b : 0;
            }
            return set;
        }

        int grains() {
            return ices.stream().mapToInt(i -> i.grains).sum();
        }
    }

    private All all = new All();
    private All kept = null;
    private final List<Integer> tape = new ArrayList<>();
    private final int[][] sheets = new int[4][];
    private final int[] bits = new int[4];
    private final List<Integer> findings = new ArrayList<>();

    private int f(int finding) {
        findings.add(finding);
        return finding;
    }

    private static boolean out(int v, int least, int most) {
        return v < least || v > most;
    }

    private boolean noBlock(int b) {
        return out(b, 0, all.ices.size() - 1);
    }

    int block(int kind, int cell, int grains) {
        if (out(kind, 0, 6) || out(cell, 0, 47) || out(grains, 1, 99)) return f(BEYOND);
        if (all.ices.size() == 16) return f(FULL);
        if (all.at(cell / 8, cell % 8) != null) return f(STATE);
        add(all, kind, cell, grains);
        return all.ices.size() - 1;
    }

    private static void add(All to, int kind, int cell, int grains) {
        Ice i = new Ice();
        i.kind = NAMES.get(kind);
        i.row = cell / 8;
        i.column = cell % 8;
        i.grains = grains;
        to.ices.add(i);
    }

    int blockOf(int b, int what) {
        if (noBlock(b) || out(what, 0, 6)) return f(BEYOND);
        Ice i = all.ices.get(b);
        int[] answers = {NAMES.indexOf(i.kind), i.gone() ? -1 : i.row * 8 + i.column, i.grains, i.gone() ? 1 : 0,
            all.standing().contains(i) ? 1 : 0, all.load(i), all.strong(i)};
        return answers[what];
    }

    int turn(int b, int kind) {
        if (noBlock(b) || out(kind, 0, 6)) return f(BEYOND);
        int was = NAMES.indexOf(all.ices.get(b).kind);
        all.ices.get(b).kind = NAMES.get(kind);
        return was;
    }

    int take(int b, int cell) {
        if (noBlock(b) || out(cell, 0, 47)) return f(BEYOND);
        Ice i = all.ices.get(b);
        Ice there = all.at(cell / 8, cell % 8);
        if (i.gone() || there != null && there != i) return f(STATE);
        int was = i.row * 8 + i.column;
        i.row = cell / 8;
        i.column = cell % 8;
        return was;
    }

    int on(int cell) {
        if (out(cell, 0, 47)) return f(BEYOND);
        return all.ices.indexOf(all.at(cell / 8, cell % 8));
    }

    int water(int b, int n) {
        if (noBlock(b) || out(n, 1, 99)) return f(BEYOND);
        Ice i = all.ices.get(b);
        if (i.gone() || all.warmth(i.row * 8 + i.column) >= 0) return f(STATE);
        int was = i.grains;
        i.grains = Math.min(99, was + n);
        return i.grains - was;
    }

    int candle(int c, int what, int v) {
        if (out(c, 0, 5) || out(what, 0, 1) || out(v, 0, what == 0 ? 47 : 30)) return f(BEYOND);
        Candle it = all.candles.get(c);
        int was = what == 0 ? it.cell : it.power;
        if (what == 0) it.cell = v; else it.power = v;
        return was;
    }

    int lit(int c, boolean is) {
        if (out(c, 0, 5)) return f(BEYOND);
        boolean was = all.candles.get(c).lit;
        all.candles.get(c).lit = is;
        return was ? 1 : 0;
    }

    int cold(int v) {
        if (out(v, -20, 20)) return f(BEYOND);
        int was = all.cold;
        all.cold = v;
        return was;
    }

    int warmth(int cell) {
        return out(cell, 0, 47) ? f(BEYOND) : all.warmth(cell);
    }

    int light() {
        return all.light();
    }

    int hours(int n) {
        if (out(n, 1, 48)) return f(BEYOND);
        if (all.hour + n > 9999) return f(STATE);
        All then = all.after(n);
        int gone = (int) (then.gone() - all.gone());
        all = then;
        return gone;
    }

    int fall() {
        long was = all.gone();
        all.fall();
        return (int) (all.gone() - was);
    }

    int loose() {
        Set<Ice> standing = all.standing();
        return all.set(i -> !i.gone() && !standing.contains(i));
    }

    int weak() {
        return all.set(i -> all.load(i) > all.strong(i));
    }

    int ahead(int n, int what) {
        if (out(n, 0, 96) || out(what, 0, 4)) return f(BEYOND);
        if (all.hour + n > 9999) return f(STATE);
        All then = all.after(n);
        return new int[] {(int) (then.gone() - all.gone()), then.grains(), then.air, then.rubble,
            then.set(Ice::gone)}[what];
    }

    int goes(int b) {
        if (noBlock(b)) return f(BEYOND);
        if (all.ices.get(b).gone() || all.hour > 9903) return f(STATE);
        int when = all.goes(b);
        return when == 97 ? f(NONE) : when;
    }

    int holds() {
        return all.hour > 9903 ? f(STATE) : all.longest();
    }

    int deal(int n) {
        if (out(n, 1, 48)) return f(BEYOND);
        if (all.hour + n > 9999) return f(STATE);
        int best = -1;
        int most = -1;
        for (int set = 63; set >= 0; set--) {
            All then = all.twin();
            for (int c = 0; c < 6; c++) {
                then.candles.get(c).lit = (set & 1 << c) != 0;
            }
            if (then.light() >= most && then.holds(n)) {
                best = set;
                most = then.light();
            }
        }
        return best == -1 ? f(NONE) : best;
    }

    int bears(int n) {
        if (out(n, 1, 48)) return f(BEYOND);
        if (all.hour + n > 9999) return f(STATE);
        Integer best = null;
        for (int cold = -20; cold <= 20; cold++) {
            All then = all.twin();
            then.cold = cold;
            best = then.holds(n) ? Integer.valueOf(cold) : best;
        }
        return best == null ? f(NONE) : best;
    }

    int needs(int b, int h) {
        if (noBlock(b) || out(h, 1, 48)) return f(BEYOND);
        if (all.ices.get(b).gone() || all.hour + h > 9999) return f(STATE);
        for (int n = 0; n <= 99; n++) {
            All then = all.twin();
            then.ices.get(b).grains += n;
            if (then.ices.get(b).grains <= 99 && then.holds(h)) {
                return n;
            }
        }
        return f(NONE);
    }

    int mend(int n) {
        if (out(n, 1, 98)) return f(BEYOND);
        if (all.hour > 9903) return f(STATE);
        int best = -1;
        int longest = -1;
        for (int b = all.ices.size() - 1; b >= 0; b--) {
            All then = all.twin();
            Ice i = then.ices.get(b);
            if (i.gone()) continue;
            i.grains = Math.min(99, i.grains + n);
            int held = then.longest();
            if (held >= longest) {
                longest = held;
                best = b;
            }
        }
        return best == -1 ? f(NONE) : best;
    }

    int whose(int b) {
        if (noBlock(b)) return f(BEYOND);
        if (all.ices.get(b).gone() || all.hour > 9903) return f(STATE);
        TreeMap<Integer, Integer> latest = new TreeMap<>();
        for (int c = 5; c >= 0; c--) {
            if (all.candles.get(c).lit) {
                All then = all.twin();
                then.candles.get(c).lit = false;
                latest.put(then.goes(b), c);
            }
        }
        return latest.isEmpty() ? f(NONE) : latest.lastEntry().getValue();
    }

    int drawing(int b, int n, int v) {
        if (noBlock(b) || out(n, 1, 24) || out(v, 0, 99)) return f(BEYOND);
        if (all.ices.get(b).gone() || all.hour + n > 9999) return f(STATE);
        List<Integer> colds = new ArrayList<>();
        for (int cold = -20; cold <= 20; cold++) {
            All then = all.twin();
            then.cold = cold;
            if (then.after(n).ices.get(b).grains == v) {
                colds.add(cold);
            }
        }
        return colds.isEmpty() ? f(NONE) : 100 * colds.size() + 20 + colds.get(0);
    }

    /** Tries all orders, by numbers, till one brings all. */
    private boolean build(List<Ice> order, List<Ice> wanted) {
        if (order.size() == wanted.size()) {
            return true;
        }
        for (Ice i : wanted) {
            if (!order.contains(i) && all.standsBy(i, new HashSet<>(order))) {
                order.add(i);
                if (build(order, wanted)) {
                    return true;
                }
                order.remove(order.size() - 1);
                // What stands now stands later too: a dead end here is one for every other order.
                return false;
            }
        }
        return false;
    }

    private List<Ice> wanted() {
        List<Ice> wanted = new ArrayList<>(all.ices);
        wanted.removeIf(Ice::gone);
        return wanted;
    }

    int order(int i) {
        if (out(i, 0, 15)) return f(BEYOND);
        List<Ice> order = new ArrayList<>();
        if (!build(order, wanted()) || i >= order.size()) return f(NONE);
        return all.ices.indexOf(order.get(i));
    }

    int steps(int m) {
        if (out(m, 1, 8)) return f(BEYOND);
        Set<Ice> there = new HashSet<>();
        List<Ice> left = wanted();
        int steps = 0;
        while (!left.isEmpty()) {
            List<Ice> come = new ArrayList<>();
            for (Ice i : left) {
                if (come.size() < m && all.standsBy(i, there)) {
                    come.add(i);
                }
            }
            if (come.isEmpty()) return f(NONE);
            there.addAll(come);
            left.removeAll(come);
            steps++;
        }
        return steps;
    }

    int shakes(int t) {
        if (out(t, 2, 9)) return f(BEYOND);
        return all.set(i -> !i.gone() && i.grains % t == 0);
    }

    int dance(int t) {
        if (out(t, 2, 9)) return f(BEYOND);
        long was = all.gone();
        all.dance(t);
        return (int) (all.gone() - was);
    }

    int tune() {
        int best = 0;
        long fewest = Long.MAX_VALUE;
        for (int t = 9; t >= 2; t--) {
            All then = all.twin();
            then.dance(t);
            if (then.gone() <= fewest) {
                fewest = then.gone();
                best = t;
            }
        }
        return best;
    }

    int wind(int n) {
        if (out(n, 1, 20)) return f(BEYOND);
        for (int i = 0; i < n; i++) {
            all.z = (int) (all.z * 1103515245L + 12345L);
            Candle c = all.candles.get((int) ((all.z & 0xffffffffL) / 256 % 6));
            c.lit = !c.lit;
        }
        return all.light();
    }

    int seed(int v) {
        int was = all.z;
        all.z = v;
        return was;
    }

    int feed(int bytes, int n) {
        if (out(n, 1, 4)) return f(BEYOND);
        if (tape.size() + n > 120) return f(FULL);
        byte[] four = {(byte) (bytes >> 24), (byte) (bytes >> 16), (byte) (bytes >> 8), (byte) bytes};
        for (int i = 4 - n; i < 4; i++) {
            tape.add(four[i] & 255);
        }
        return tape.size();
    }

    int wipe() {
        int had = tape.size();
        tape.clear();
        return had;
    }

    private static final class Fault extends Exception {
        private static final long serialVersionUID = 1L;
        final int place;

        Fault(int place) {
            super("", null, false, false);
            this.place = place;
        }
    }

    private record Token(String text, int place) {
    }

    private static List<Token> tokens(String text) {
        List<Token> tokens = new ArrayList<>();
        Matcher m = Pattern.compile("[a-z]+|[0-9]+|[^ ]", Pattern.DOTALL).matcher(text);
        while (m.find()) {
            tokens.add(new Token(m.group(), m.start()));
        }
        tokens.add(new Token("", text.length()));
        return tokens;
    }

    private static int number(Token t, int least, int most) throws Fault {
        if (!t.text.matches("[0-9]+")) throw new Fault(t.place);
        java.math.BigInteger v = new java.math.BigInteger(t.text);
        if (v.bitLength() > 20 || out(v.intValue(), least, most)) throw new Fault(t.place);
        return v.intValue();
    }

    private static int items(String text, All to) throws Fault {
        List<Token> tokens = tokens(text);
        int items = 0;
        int k = 0;
        while (true) {
            Token word = tokens.get(k++);
            if (NAMES.contains(word.text)) {
                if (to.ices.size() == 16) throw new Fault(word.place);
                Token where = tokens.get(k++);
                int cell = number(where, 0, 47);
                if (to.at(cell / 8, cell % 8) != null) throw new Fault(where.place);
                int grains = 20;
                if (tokens.get(k).text.equals("grains")) {
                    grains = number(tokens.get(k + 1), 1, 99);
                    k += 2;
                }
                add(to, NAMES.indexOf(word.text), cell, grains);
            } else if (word.text.equals("candle")) {
                Candle c = to.candles.get(number(tokens.get(k++), 0, 5));
                if (!tokens.get(k).text.equals("at")) throw new Fault(tokens.get(k).place);
                c.cell = number(tokens.get(k + 1), 0, 47);
                k += 2;
                if (tokens.get(k).text.equals("power")) {
                    c.power = number(tokens.get(k + 1), 0, 30);
                    k += 2;
                }
                c.lit = tokens.get(k).text.equals("lit");
                k += c.lit ? 1 : 0;
            } else if (word.text.equals("cold")) {
                boolean minus = tokens.get(k).text.equals("-");
                k += minus ? 1 : 0;
                int v = number(tokens.get(k++), 0, 20);
                to.cold = minus ? -v : v;
            } else {
                throw new Fault(word.place);
            }
            items++;
            Token behind = tokens.get(k++);
            if (behind.text.isEmpty()) return items;
            if (!behind.text.equals(";")) throw new Fault(behind.place);
        }
    }

    int text() {
        StringBuilder text = new StringBuilder();
        tape.forEach(b -> text.append((char) b.intValue()));
        tape.clear();
        All then = all.twin();
        try {
            int items = items(text.toString(), then);
            all = then;
            return items;
        } catch (Fault fault) {
            return -1 - fault.place;
        }
    }

    int hold(int spot, int b) {
        if (out(spot, 0, 9) || b != -1 && noBlock(b)) return f(BEYOND);
        all.spots[spot] = b == -1 ? null : (Integer) b;
        return 1;
    }

    int as(int spot, int kind) {
        if (out(spot, 0, 9) || out(kind, 0, 6)) return f(BEYOND);
        if (all.spots[spot] == null) return f(MISSING);
        int b = all.spots[spot];
        String is = all.ices.get(b).kind;
        String want = NAMES.get(kind);
        boolean under = want.equals("block") || is.equals(want) || want.equals("arch") && is.equals("throne")
            || want.equals("beam") && is.equals("lintel");
        return under ? b : f(KIND);
    }

    int sheet(int s, int width, int n) {
        if (out(s, 0, 3) || !List.of(0, 8, 16, 32).contains(width)) return f(BEYOND);
        if (n < 0) return f(SIZE);
        if (n > 40) return f(BEYOND);
        bits[s] = width;
        sheets[s] = width == 0 ? null : new int[n];
        return width == 0 ? 0 : n;
    }

    int write(int s, int i, int v) {
        if (out(s, 0, 3)) return f(BEYOND);
        if (sheets[s] == null) return f(MISSING);
        if (out(i, 0, sheets[s].length - 1)) return f(BEYOND);
        sheets[s][i] = v << 32 - bits[s] >> 32 - bits[s];
        return 1;
    }

    int copy(int s, int from, int t, int to, int n) {
        if (out(s, 0, 3) || out(t, 0, 3)) return f(BEYOND);
        if (sheets[s] == null || sheets[t] == null) return f(MISSING);
        if (bits[s] != bits[t]) return f(KIND);
        if (from < 0 || to < 0 || n < 0 || (long) from + n > sheets[s].length || (long) to + n > sheets[t].length) {
            return f(BEYOND);
        }
        int[] were = Arrays.copyOfRange(sheets[s], from, from + n);
        for (int i = 0; i < n; i++) {
            sheets[t][to + i] = were[i];
        }
        return n;
    }

    int load(int s) {
        if (out(s, 0, 3)) return f(BEYOND);
        if (sheets[s] == null) return f(MISSING);
        int read = 0;
        for (int v : sheets[s]) {
            if (out(v, 1, 99) || read >= all.ices.size()) break;
            Ice i = all.ices.get(read++);
            i.grains = i.gone() ? 0 : v;
        }
        return read;
    }

    int judge(int s) {
        if (out(s, 0, 3)) return f(BEYOND);
        if (sheets[s] == null) return f(MISSING);
        Set<Ice> there = new HashSet<>();
        for (int k = 0; k < sheets[s].length; k++) {
            int b = sheets[s][k];
            if (noBlock(b)) return k + 1;
            Ice i = all.ices.get(b);
            if (i.gone() || there.contains(i) || !all.standsBy(i, there)) return k + 1;
            there.add(i);
        }
        return there.containsAll(wanted()) ? 0 : 41;
    }

    int image() {
        kept = all.twin();
        return 1;
    }

    int undo() {
        if (kept == null) return f(NONE);
        all = kept.twin();
        return all.hour;
    }

    int tear() {
        int was = kept == null ? 0 : 1;
        kept = null;
        return was;
    }

    int count(int what) {
        if (out(what, 0, 7)) return f(BEYOND);
        return new int[] {all.hour, all.ices.size(), (int) all.gone(), all.grains(), all.air, all.rubble, tape.size(),
            all.z}[what];
    }

    int status(int which) {
        if (out(which, -1, 6)) return f(BEYOND);
        return (int) findings.stream().filter(x -> which == -1 || x == BEYOND - which).count();
    }
}
