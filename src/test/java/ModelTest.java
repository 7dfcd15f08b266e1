import java.util.Random;

/** Runs of calls drawn with fixed seeds, each answer against that of Model. */
public final class ModelTest {
    private static final String[] CALLS = {"block", "blockOf", "turn", "take", "on", "water", "candle", "lit", "cold",
        "warmth", "light", "hours", "fall", "loose", "weak", "ahead", "goes", "holds", "deal", "bears", "needs", "mend",
        "whose", "drawing", "order", "steps", "shakes", "dance", "tune", "wind", "seed", "feed", "wipe", "text", "hold",
        "as", "sheet", "write", "copy", "load", "judge", "image", "undo", "tear", "count", "status"};
    /** What later calls answer is free. */
    private static final int MOST_CALLS = 512;
    /** How many calls lookAtAll() makes at most. */
    private static final int WHOLE_LOOK = 234;
    private static final int[] WILD = {Integer.MIN_VALUE, Integer.MIN_VALUE + 1, -100, -21, -2, -1, 0, 1, 10, 16, 24, 25,
        30, 31, 41, 48, 49, 96, 97, 99, 100, 256, 65536, Integer.MAX_VALUE - 1, Integer.MAX_VALUE};
    private static final String[] WORDS = {"block", "arch", "beam", "throne", "pillar", "lintel", "icicle", "candle",
        "cold", "grains", "at", "power", "lit", ";", "-", "blocks", "col", "x"};

    private final Due due = new Due("ModelTest");
    private Random random;
    private IcePalace x;
    private Model m;
    private int run;
    private int calls;

    public static void main(String[] args) {
        int runs = args.length > 0 ? Integer.parseInt(args[0]) : 300;
        int first = args.length > 1 ? Integer.parseInt(args[1]) : 0;
        ModelTest test = new ModelTest();
        for (int run = first; run < first + runs && test.due.wrongs() == 0; run++) {
            test.oneRun(run);
        }
        for (int promise = 2; promise <= 47; promise++) {
            test.due.holds("promise " + promise + " was asked", runs < 100 || test.due.asked(promise) > 0);
        }
        test.due.end();
    }

    private void oneRun(int number) {
        run = number;
        calls = 0;
        random = new Random(number * 7919L + 17);
        x = new IcePalace();
        m = new Model();
        if (number % 10 == 9) {
            age();
        }
        furnish();
        int most = MOST_CALLS - WHOLE_LOOK - 40;
        while (calls < most && due.wrongs() == 0) {
            int which = random.nextInt(CALLS.length);
            if (random.nextInt(12) == 0) {
                tellText();
            } else if (isDear(which) && random.nextInt(3) > 0) {
                ask(random.nextInt(15));
            } else {
                ask(which);
            }
            look();
        }
        lookAtAll();
        due.holds("run " + run + " has at most 512 calls", calls <= MOST_CALLS);
    }

    private static boolean isDear(int which) {
        return which >= 15 && which <= 23;
    }

    /** Near the last hour, so that STATE of the hours is met. */
    private void age() {
        int hours = 0;
        int most = 9840 + random.nextInt(150);
        while (hours + 48 <= most) {
            same(13, "hours(48)", x.hours(48), m.hours(48));
            hours += 48;
        }
    }

    /** A palace that mostly stands: columns on the ground, with arches, beams and icicles about them. */
    private void furnish() {
        int many = random.nextInt(17);
        for (int i = 0; i < many; i++) {
            int cell = random.nextInt(3) == 0 ? random.nextInt(48) : stacked();
            int kind = random.nextInt(7);
            int grains = random.nextInt(3) == 0 ? 1 + random.nextInt(8) : 1 + random.nextInt(99);
            same(2, "block(" + kind + ", " + cell + ", " + grains + ")", x.block(kind, cell, grains),
                m.block(kind, cell, grains));
        }
        int candles = random.nextInt(5);
        for (int i = 0; i < candles; i++) {
            int c = random.nextInt(6);
            int cell = random.nextInt(48);
            int power = random.nextInt(31);
            boolean lit = random.nextInt(4) > 0;
            same(8, "candle(" + c + ", 0, " + cell + ")", x.candle(c, 0, cell), m.candle(c, 0, cell));
            same(8, "candle(" + c + ", 1, " + power + ")", x.candle(c, 1, power), m.candle(c, 1, power));
            same(9, "lit(" + c + ", " + lit + ")", x.lit(c, lit), m.lit(c, lit));
        }
    }

    /** The lowest free cell of a column, or that beside one on which a block is. */
    private int stacked() {
        int column = random.nextInt(8);
        int cell = column;
        while (cell < 40 && m.on(cell) >= 0) {
            cell += 8;
        }
        return random.nextInt(4) == 0 && cell >= 8 ? Math.min(47, cell + 1) : cell;
    }

    private int from(int least, int most) {
        int dice = random.nextInt(40);
        if (dice == 0) {
            return WILD[random.nextInt(WILD.length)];
        }
        if (dice == 1) {
            return random.nextBoolean() ? least - 1 : most + 1;
        }
        if (dice == 2) {
            return random.nextBoolean() ? least : most;
        }
        return least + random.nextInt(most - least + 1);
    }

    private int aBlock() {
        return from(0, Math.max(0, m.count(1) - 1));
    }

    private void same(int promise, String call, int got, int want) {
        calls++;
        due.same(promise, "run " + run + ", call " + calls + ": " + call, got, want);
    }

    private void tellText() {
        StringBuilder text = new StringBuilder();
        int items = 1 + random.nextInt(4);
        for (int i = 0; i < items; i++) {
            text.append(i > 0 ? ";" : "").append(blanks());
            item(text);
        }
        if (random.nextInt(3) == 0 && text.length() > 0) {
            spoil(text);
        }
        if (random.nextInt(8) == 0) {
            text.setLength(random.nextInt(text.length() + 1));
        }
        for (int i = 0; i < text.length();) {
            int n = Math.min(text.length() - i, 1 + random.nextInt(4));
            int bytes = random.nextInt();
            for (int k = 0; k < n; k++) {
                bytes = bytes << 8 | text.charAt(i + k) & 255;
            }
            same(33, "feed(" + bytes + ", " + n + ")", x.feed(bytes, n), m.feed(bytes, n));
            i += n;
        }
        same(35, "text() of '" + text + "'", x.text(), m.text());
    }

    private String blanks() {
        return " ".repeat(random.nextInt(5) == 0 ? random.nextInt(3) : 1);
    }

    private void item(StringBuilder text) {
        int kind = random.nextInt(10);
        if (kind < 7) {
            text.append(WORDS[kind]).append(blanks()).append(from(0, 47)).append(blanks());
            if (random.nextBoolean()) {
                text.append("grains").append(blanks()).append(from(1, 99)).append(blanks());
            }
        } else if (kind < 9) {
            text.append("candle").append(blanks()).append(from(0, 5)).append(blanks()).append("at").append(from(0, 47));
            if (random.nextBoolean()) {
                text.append(blanks()).append("power").append(blanks()).append(from(0, 30));
            }
            text.append(random.nextBoolean() ? " lit" : "");
        } else {
            text.append("cold").append(blanks()).append(random.nextBoolean() ? "-" : "").append(blanks()).append(from(0, 20));
        }
    }

    private void spoil(StringBuilder text) {
        int at = random.nextInt(text.length());
        switch (random.nextInt(4)) {
            case 0 -> text.deleteCharAt(at);
            case 1 -> text.setCharAt(at, (char) random.nextInt(256));
            case 2 -> text.insert(at, WORDS[random.nextInt(WORDS.length)]);
            default -> text.insert(at, random.nextInt(2000));
        }
    }

    private void look() {
        int what = random.nextInt(8);
        same(46, "count(" + what + ")", x.count(what), m.count(what));
        int block = aBlock();
        int of = random.nextInt(7);
        same(3, "blockOf(" + block + ", " + of + ")", x.blockOf(block, of), m.blockOf(block, of));
    }

    private void lookAtAll() {
        for (int what = 0; what < 8; what++) {
            same(46, "count(" + what + ")", x.count(what), m.count(what));
        }
        for (int which = -1; which < 7; which++) {
            same(47, "status(" + which + ")", x.status(which), m.status(which));
        }
        for (int b = 0; b < m.count(1); b++) {
            for (int what = 0; what < 7; what++) {
                same(3, "blockOf(" + b + ", " + what + ")", x.blockOf(b, what), m.blockOf(b, what));
            }
        }
        for (int cell = 0; cell < 48; cell++) {
            same(6, "on(" + cell + ")", x.on(cell), m.on(cell));
            same(11, "warmth(" + cell + ")", x.warmth(cell), m.warmth(cell));
        }
        for (int spot = 0; spot < 10; spot++) {
            same(37, "as(" + spot + ", 0)", x.as(spot, 0), m.as(spot, 0));
        }
    }

    private void ask(int which) {
        if (which < 15) {
            askBuilt(which);
        } else if (which < 32) {
            askAhead(which);
        } else {
            askHeld(which);
        }
    }

    private void askBuilt(int which) {
        int p = which + 2;
        String call = CALLS[which];
        int a = 0;
        int b = 0;
        int c = 0;
        switch (call) {
            case "block" -> { a = from(0, 6); b = from(0, 47); c = from(1, 99); same(p, show(call, a, b, c), x.block(a, b, c), m.block(a, b, c)); }
            case "blockOf" -> { a = aBlock(); b = from(0, 6); same(p, show(call, a, b), x.blockOf(a, b), m.blockOf(a, b)); }
            case "turn" -> { a = aBlock(); b = from(0, 6); same(p, show(call, a, b), x.turn(a, b), m.turn(a, b)); }
            case "take" -> { a = aBlock(); b = from(0, 47); same(p, show(call, a, b), x.take(a, b), m.take(a, b)); }
            case "on" -> { a = from(0, 47); same(p, show(call, a), x.on(a), m.on(a)); }
            case "water" -> { a = aBlock(); b = from(1, 99); same(p, show(call, a, b), x.water(a, b), m.water(a, b)); }
            case "candle" -> { a = from(0, 5); b = from(0, 1); c = from(0, b == 1 ? 30 : 47); same(p, show(call, a, b, c), x.candle(a, b, c), m.candle(a, b, c)); }
            case "lit" -> { a = from(0, 5); boolean is = random.nextBoolean(); same(p, show(call, a) + is, x.lit(a, is), m.lit(a, is)); }
            case "cold" -> { a = from(-20, random.nextInt(3) == 0 ? 20 : 0); same(p, show(call, a), x.cold(a), m.cold(a)); }
            case "warmth" -> { a = from(0, 47); same(p, show(call, a), x.warmth(a), m.warmth(a)); }
            case "light" -> same(p, show(call), x.light(), m.light());
            case "hours" -> { a = random.nextInt(4) == 0 ? from(1, 48) : 1; same(p, show(call, a), x.hours(a), m.hours(a)); }
            case "fall" -> same(p, show(call), x.fall(), m.fall());
            case "loose" -> same(p, show(call), x.loose(), m.loose());
            default -> same(p, show(call), x.weak(), m.weak());
        }
    }

    private void askAhead(int which) {
        int p = which + 2;
        String call = CALLS[which];
        int a = 0;
        int b = 0;
        int c = 0;
        switch (call) {
            case "ahead" -> { a = from(0, random.nextBoolean() ? 96 : 5); b = from(0, 4); same(p, show(call, a, b), x.ahead(a, b), m.ahead(a, b)); }
            case "goes" -> { a = aBlock(); same(p, show(call, a), x.goes(a), m.goes(a)); }
            case "holds" -> same(p, show(call), x.holds(), m.holds());
            case "deal" -> { a = from(1, random.nextBoolean() ? 48 : 4); same(p, show(call, a), x.deal(a), m.deal(a)); }
            case "bears" -> { a = from(1, random.nextBoolean() ? 48 : 4); same(p, show(call, a), x.bears(a), m.bears(a)); }
            case "needs" -> { a = aBlock(); b = from(1, random.nextInt(4) == 0 ? 48 : 5); same(p, show(call, a, b), x.needs(a, b), m.needs(a, b)); }
            case "mend" -> { a = from(1, 98); same(p, show(call, a), x.mend(a), m.mend(a)); }
            case "whose" -> { a = aBlock(); same(p, show(call, a), x.whose(a), m.whose(a)); }
            case "drawing" -> { a = aBlock(); b = from(1, random.nextBoolean() ? 24 : 3); c = drawn(a, b); same(p, show(call, a, b, c), x.drawing(a, b, c), m.drawing(a, b, c)); }
            case "order" -> { a = from(0, 15); same(p, show(call, a), x.order(a), m.order(a)); }
            case "steps" -> { a = from(1, 8); same(p, show(call, a), x.steps(a), m.steps(a)); }
            case "shakes" -> { a = from(2, 9); same(p, show(call, a), x.shakes(a), m.shakes(a)); }
            case "dance" -> { a = from(2, 9); same(p, show(call, a), x.dance(a), m.dance(a)); }
            case "tune" -> same(p, show(call), x.tune(), m.tune());
            case "wind" -> { a = from(1, 20); same(p, show(call, a), x.wind(a), m.wind(a)); }
            case "seed" -> { a = random.nextInt(); same(p, show(call, a), x.seed(a), m.seed(a)); }
            default -> { a = random.nextInt(); b = from(1, 4); same(p, show(call, a, b), x.feed(a, b), m.feed(a, b)); }
        }
    }

    /** GRAINS to ask of a drawing: mostly ones that a cold really gives. */
    private int drawn(int block, int n) {
        if (random.nextInt(3) == 0 || block < 0 || block >= m.count(1) || n < 1 || n > 24) {
            return from(0, 99);
        }
        return random.nextBoolean() ? 0 : m.blockOf(block, 2);
    }

    private void askHeld(int which) {
        int p = which + 2;
        String call = CALLS[which];
        int a = 0;
        int b = 0;
        int c = 0;
        switch (call) {
            case "wipe" -> same(p, show(call), x.wipe(), m.wipe());
            case "text" -> same(p, show(call), x.text(), m.text());
            case "hold" -> { a = from(0, 9); b = from(-1, Math.max(0, m.count(1) - 1)); same(p, show(call, a, b), x.hold(a, b), m.hold(a, b)); }
            case "as" -> { a = from(0, 9); b = from(0, 6); same(p, show(call, a, b), x.as(a, b), m.as(a, b)); }
            case "sheet" -> { a = from(0, 3); b = random.nextInt(20) == 0 ? from(0, 32) : 8 * random.nextInt(5); c = from(0, random.nextBoolean() ? 40 : 8); same(p, show(call, a, b, c), x.sheet(a, b, c), m.sheet(a, b, c)); }
            case "write" -> { a = from(0, 3); b = from(0, 12); c = random.nextInt(3) == 0 ? random.nextInt() : from(0, 99); same(p, show(call, a, b, c), x.write(a, b, c), m.write(a, b, c)); }
            case "copy" -> askCopy(p);
            case "load" -> { fillSheet(true); a = from(0, 3); same(p, show(call, a), x.load(a), m.load(a)); }
            case "judge" -> { fillSheet(false); a = from(0, 3); same(p, show(call, a), x.judge(a), m.judge(a)); }
            case "image" -> same(p, show(call), x.image(), m.image());
            case "undo" -> same(p, show(call), x.undo(), m.undo());
            case "tear" -> same(p, show(call), x.tear(), m.tear());
            case "count" -> { a = from(0, 7); same(p, show(call, a), x.count(a), m.count(a)); }
            default -> { a = from(-1, 6); same(p, show(call, a), x.status(a), m.status(a)); }
        }
    }

    private void askCopy(int p) {
        int s = from(0, 3);
        int t = from(0, 3);
        int from = from(0, 6);
        int to = from(0, 6);
        int n = from(0, 6);
        same(p, "copy(" + s + ", " + from + ", " + t + ", " + to + ", " + n + ")", x.copy(s, from, t, to, n),
            m.copy(s, from, t, to, n));
        same(p, "load(" + t + ") behind copy", x.load(t), m.load(t));
    }

    /** Lays sheet 0 with GRAINS, or with an order of building that is right or nearly so. */
    private void fillSheet(boolean withGrains) {
        int many = Math.max(0, m.count(1) - m.count(2) + random.nextInt(3) - 1);
        int bits = 8 << random.nextInt(3);
        same(38, "sheet(0, ..)", x.sheet(0, bits, many), m.sheet(0, bits, many));
        for (int i = 0; i < many; i++) {
            int v = withGrains || random.nextInt(20) == 0 ? from(1, 99) : next(i);
            same(39, "write(0, " + i + ", " + v + ")", x.write(0, i, v), m.write(0, i, v));
        }
    }

    private int next(int i) {
        int place = Math.min(i, 15);
        int next = m.order(place);
        same(26, "order(" + place + ")", x.order(place), next);
        return next;
    }

    private static String show(String call, int... args) {
        StringBuilder shown = new StringBuilder(call).append('(');
        for (int i = 0; i < args.length; i++) {
            shown.append(i > 0 ? ", " : "").append(args[i]);
        }
        return shown.append(')').toString();
    }
}
