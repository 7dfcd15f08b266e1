import java.util.Arrays;

/** An ice palace lit from within; what each call does is told by the document's promises 1 to 47. */
public final class IcePalace {
    private static final int COLUMNS = 8;
    private static final int CELLS = 48;
    private static final int MOST_BLOCKS = 16;
    private static final int MOST_GRAINS = 99;
    private static final int GRAINS_UNTOLD = 20;
    private static final int CANDLES = 6;
    private static final int MOST_POWER = 30;
    private static final int MOST_COLD = 20;
    private static final int LAST_HOUR = 9999;
    private static final int FAR_AHEAD = 96;
    private static final int DAYS_AHEAD = 48;
    private static final int DRAWN_AHEAD = 24;
    private static final int LEAST_TUNE = 2;
    private static final int MOST_TUNE = 9;
    private static final int SPOTS = 10;
    private static final int SHEETS = 4;
    private static final int MOST_NUMBERS = 40;
    private static final int MOST_BYTES = 120;

    private static final int ARCH = 1;
    private static final int BEAM = 2;
    private static final int THRONE = 3;
    private static final int PILLAR = 4;
    private static final int LINTEL = 5;
    private static final int ICICLE = 6;
    private static final int KINDS = 7;
    /** The kind above each kind; -1 above BLOCK. */
    private static final int[] KIND_ABOVE = {-1, 0, 0, ARCH, 0, BEAM, 0};

    private static final int LOW = -1000001;
    private static final int BEYOND = LOW;
    private static final int FULL = LOW - 1;
    private static final int KIND = LOW - 2;
    private static final int NONE = LOW - 3;
    private static final int STATE = LOW - 4;
    private static final int MISSING = LOW - 5;
    private static final int SIZE = LOW - 6;
    private static final int FINDINGS = 7;

    private final Palace now = new Palace();
    private final Palace kept = new Palace();
    /** Tries of what lies ahead are made here, so that no call makes a palace of its own. */
    private final Palace trial = new Palace();
    private boolean isKept;
    private final TextReader reader = new TextReader();
    private final Tape tape = reader.tape;
    private final Sheet[] sheets = new Sheet[SHEETS];
    private final int[] found = new int[FINDINGS];

    public IcePalace() {
        for (int s = 0; s < SHEETS; s++) {
            sheets[s] = new Sheet();
        }
    }

    // ---- blocks, candles

    public int block(int kind, int cell, int grains) {
        if (!isKind(kind) || !isCell(cell) || !isWithin(grains, 1, MOST_GRAINS)) {
            return tell(BEYOND);
        }
        if (now.wall.isFull()) {
            return tell(FULL);
        }
        if (now.wall.blockAt(cell) >= 0) {
            return tell(STATE);
        }
        return now.wall.build(kind, cell, grains);
    }

    public int blockOf(int block, int what) {
        Wall wall = now.wall;
        if (!wall.isBlock(block) || !isWithin(what, 0, 6)) {
            return tell(BEYOND);
        }
        switch (what) {
            case 0:
                return wall.kinds[block];
            case 1:
                return wall.cells[block];
            case 2:
                return wall.grains[block];
            case 3:
                return wall.isGone(block) ? 1 : 0;
            case 4:
                return (wall.standing() & wall.cellBit(block)) != 0L ? 1 : 0;
            case 5:
                return wall.loadOf(block);
            default:
                return wall.strengthOf(block);
        }
    }

    public int turn(int block, int kind) {
        if (!now.wall.isBlock(block) || !isKind(kind)) {
            return tell(BEYOND);
        }
        int was = now.wall.kinds[block];
        now.wall.kinds[block] = kind;
        return was;
    }

    public int take(int block, int cell) {
        Wall wall = now.wall;
        if (!wall.isBlock(block) || !isCell(cell)) {
            return tell(BEYOND);
        }
        int there = wall.blockAt(cell);
        if (wall.isGone(block) || (there >= 0 && there != block)) {
            return tell(STATE);
        }
        return wall.move(block, cell);
    }

    public int on(int cell) {
        if (!isCell(cell)) {
            return tell(BEYOND);
        }
        return now.wall.blockAt(cell);
    }

    public int water(int block, int n) {
        Wall wall = now.wall;
        if (!wall.isBlock(block) || !isWithin(n, 1, MOST_GRAINS)) {
            return tell(BEYOND);
        }
        if (wall.isGone(block) || now.candles.warmthAt(wall.cells[block]) >= 0) {
            return tell(STATE);
        }
        return wall.thicken(block, n);
    }

    public int candle(int candle, int what, int v) {
        if (!isCandle(candle) || !isWithin(what, 0, 1) || !(what == 0 ? isCell(v) : isWithin(v, 0, MOST_POWER))) {
            return tell(BEYOND);
        }
        int[] row = what == 0 ? now.candles.cells : now.candles.powers;
        int was = row[candle];
        row[candle] = v;
        return was;
    }

    public int lit(int candle, boolean is) {
        if (!isCandle(candle)) {
            return tell(BEYOND);
        }
        boolean was = now.candles.isLit(candle);
        now.candles.setLit(candle, is);
        return was ? 1 : 0;
    }

    public int cold(int v) {
        if (!isWithin(v, -MOST_COLD, MOST_COLD)) {
            return tell(BEYOND);
        }
        int was = now.candles.cold;
        now.candles.cold = v;
        return was;
    }

    public int warmth(int cell) {
        if (!isCell(cell)) {
            return tell(BEYOND);
        }
        return now.candles.warmthAt(cell);
    }

    public int light() {
        return now.candles.lightOf(now.candles.litSet);
    }

    // ---- hours

    public int hours(int n) {
        if (!isWithin(n, 1, DAYS_AHEAD)) {
            return tell(BEYOND);
        }
        if (!hasHours(n)) {
            return tell(STATE);
        }
        return now.passHours(n);
    }

    public int fall() {
        return now.collapse();
    }

    public int loose() {
        return now.wall.looseSet();
    }

    public int weak() {
        return now.wall.weakSet();
    }

    // ---- ahead

    public int ahead(int n, int what) {
        if (!isWithin(n, 0, FAR_AHEAD) || !isWithin(what, 0, 4)) {
            return tell(BEYOND);
        }
        if (!hasHours(n)) {
            return tell(STATE);
        }
        Palace then = freshTrial();
        int gone = then.passHours(n);
        switch (what) {
            case 0:
                return gone;
            case 1:
                return then.wall.allGrains();
            case 2:
                return then.air;
            case 3:
                return then.rubble;
            default:
                return then.wall.goneSet();
        }
    }

    public int goes(int block) {
        if (!now.wall.isBlock(block)) {
            return tell(BEYOND);
        }
        if (now.wall.isGone(block) || !hasHours(FAR_AHEAD)) {
            return tell(STATE);
        }
        int when = freshTrial().goneIn(block, FAR_AHEAD);
        return when > FAR_AHEAD ? tell(NONE) : when;
    }

    public int holds() {
        if (!hasHours(FAR_AHEAD)) {
            return tell(STATE);
        }
        return freshTrial().hoursHeld(FAR_AHEAD);
    }

    public int deal(int n) {
        if (!isWithin(n, 1, DAYS_AHEAD)) {
            return tell(BEYOND);
        }
        if (!hasHours(n)) {
            return tell(STATE);
        }
        int best = -1;
        int most = -1;
        for (int set = 0; set < 1 << CANDLES; set++) {
            int light = now.candles.lightOf(set);
            if (light <= most) {
                continue;
            }
            Palace then = freshTrial();
            then.candles.litSet = set;
            if (then.hoursHeld(n) == n) {
                best = set;
                most = light;
            }
        }
        return best < 0 ? tell(NONE) : best;
    }

    public int bears(int n) {
        if (!isWithin(n, 1, DAYS_AHEAD)) {
            return tell(BEYOND);
        }
        if (!hasHours(n)) {
            return tell(STATE);
        }
        for (int cold = MOST_COLD; cold >= -MOST_COLD; cold--) {
            Palace then = freshTrial();
            then.candles.cold = cold;
            if (then.hoursHeld(n) == n) {
                return cold;
            }
        }
        return tell(NONE);
    }

    public int needs(int block, int h) {
        if (!now.wall.isBlock(block) || !isWithin(h, 1, DAYS_AHEAD)) {
            return tell(BEYOND);
        }
        if (now.wall.isGone(block) || !hasHours(h)) {
            return tell(STATE);
        }
        int room = MOST_GRAINS - now.wall.grains[block];
        for (int more = 0; more <= room; more++) {
            Palace then = freshTrial();
            then.wall.thicken(block, more);
            if (then.hoursHeld(h) == h) {
                return more;
            }
        }
        return tell(NONE);
    }

    public int mend(int n) {
        if (!isWithin(n, 1, MOST_GRAINS - 1)) {
            return tell(BEYOND);
        }
        if (!hasHours(FAR_AHEAD)) {
            return tell(STATE);
        }
        int best = -1;
        int longest = -1;
        for (int block = 0; block < now.wall.blocks; block++) {
            if (now.wall.isGone(block)) {
                continue;
            }
            Palace then = freshTrial();
            then.wall.thicken(block, n);
            int held = then.hoursHeld(FAR_AHEAD);
            if (held > longest) {
                best = block;
                longest = held;
            }
        }
        return best < 0 ? tell(NONE) : best;
    }

    public int whose(int block) {
        if (!now.wall.isBlock(block)) {
            return tell(BEYOND);
        }
        if (now.wall.isGone(block) || !hasHours(FAR_AHEAD)) {
            return tell(STATE);
        }
        int best = -1;
        int latest = 0;
        for (int candle = 0; candle < CANDLES; candle++) {
            if (!now.candles.isLit(candle)) {
                continue;
            }
            Palace then = freshTrial();
            then.candles.setLit(candle, false);
            int when = then.goneIn(block, FAR_AHEAD);
            if (when > latest) {
                best = candle;
                latest = when;
            }
        }
        return best < 0 ? tell(NONE) : best;
    }

    public int drawing(int block, int n, int v) {
        if (!now.wall.isBlock(block) || !isWithin(n, 1, DRAWN_AHEAD) || !isWithin(v, 0, MOST_GRAINS)) {
            return tell(BEYOND);
        }
        if (now.wall.isGone(block) || !hasHours(n)) {
            return tell(STATE);
        }
        int many = 0;
        int least = 0;
        for (int cold = MOST_COLD; cold >= -MOST_COLD; cold--) {
            Palace then = freshTrial();
            then.candles.cold = cold;
            then.passHours(n);
            if (then.wall.grains[block] == v) {
                many++;
                least = cold;
            }
        }
        return many == 0 ? tell(NONE) : 100 * many + MOST_COLD + least;
    }

    // ---- building, dancing

    public int order(int i) {
        if (!isWithin(i, 0, MOST_BLOCKS - 1)) {
            return tell(BEYOND);
        }
        Wall wall = now.wall;
        long all = wall.occupied();
        long there = 0L;
        int answer = -1;
        for (int place = 0; place < MOST_BLOCKS && there != all; place++) {
            int next = wall.nextComer(there, 0);
            if (next < 0) {
                return tell(NONE);
            }
            if (place == i) {
                answer = next;
            }
            there |= wall.cellBit(next);
        }
        return answer < 0 ? tell(NONE) : answer;
    }

    public int steps(int m) {
        if (!isWithin(m, 1, 8)) {
            return tell(BEYOND);
        }
        long all = now.wall.occupied();
        long there = 0L;
        for (int step = 0; step <= MOST_BLOCKS; step++) {
            if (there == all) {
                return step;
            }
            there |= now.wall.comers(there, m);
        }
        // A step in which somebody can come brings one at least, so 16 steps bring all that ever can.
        return tell(NONE);
    }

    public int shakes(int t) {
        if (!isTune(t)) {
            return tell(BEYOND);
        }
        return now.wall.shakenSet(t);
    }

    public int dance(int t) {
        if (!isTune(t)) {
            return tell(BEYOND);
        }
        return now.danceTo(t);
    }

    public int tune() {
        int best = LEAST_TUNE;
        int fewest = MOST_BLOCKS + 1;
        for (int t = LEAST_TUNE; t <= MOST_TUNE; t++) {
            int gone = freshTrial().danceTo(t);
            if (gone < fewest) {
                best = t;
                fewest = gone;
            }
        }
        return best;
    }

    public int wind(int n) {
        if (!isWithin(n, 1, 20)) {
            return tell(BEYOND);
        }
        for (int i = 0; i < n; i++) {
            int candle = now.draw() % CANDLES;
            now.candles.setLit(candle, !now.candles.isLit(candle));
        }
        return now.candles.lightOf(now.candles.litSet);
    }

    public int seed(int v) {
        int was = now.z;
        now.z = v;
        return was;
    }

    // ---- texts

    public int feed(int bytes, int n) {
        if (!isWithin(n, 1, 4)) {
            return tell(BEYOND);
        }
        if (tape.size + n > MOST_BYTES) {
            return tell(FULL);
        }
        for (int i = n - 1; i >= 0; i--) {
            tape.append(bytes >>> (8 * i) & 255);
        }
        return tape.size;
    }

    public int wipe() {
        int had = tape.size;
        tape.size = 0;
        return had;
    }

    public int text() {
        // Read into a trial first: a FAULT in a late ITEM must leave no earlier one behind.
        int answer = reader.readInto(freshTrial());
        tape.size = 0;
        if (answer >= 0) {
            now.copyFrom(trial);
        }
        return answer;
    }

    // ---- spots, sheets

    public int hold(int spot, int block) {
        if (!isSpot(spot) || (block != -1 && !now.wall.isBlock(block))) {
            return tell(BEYOND);
        }
        now.spots[spot] = block;
        return 1;
    }

    public int as(int spot, int kind) {
        if (!isSpot(spot) || !isKind(kind)) {
            return tell(BEYOND);
        }
        int block = now.spots[spot];
        if (!now.wall.isBlock(block)) {
            return tell(MISSING);
        }
        return isUnder(now.wall.kinds[block], kind) ? block : tell(KIND);
    }

    public int sheet(int s, int bits, int n) {
        if (!isSheet(s) || (bits != 0 && bits != 8 && bits != 16 && bits != 32)) {
            return tell(BEYOND);
        }
        if (n < 0) {
            return tell(SIZE);
        }
        if (n > MOST_NUMBERS) {
            return tell(BEYOND);
        }
        return sheets[s].lay(bits, n);
    }

    public int write(int s, int i, int v) {
        if (!isSheet(s)) {
            return tell(BEYOND);
        }
        Sheet sheet = sheets[s];
        if (sheet.isMissing()) {
            return tell(MISSING);
        }
        if (!isWithin(i, 0, sheet.size - 1)) {
            return tell(BEYOND);
        }
        sheet.put(i, v);
        return 1;
    }

    public int copy(int s, int from, int t, int to, int n) {
        if (!isSheet(s) || !isSheet(t)) {
            return tell(BEYOND);
        }
        Sheet source = sheets[s];
        Sheet target = sheets[t];
        if (source.isMissing() || target.isMissing()) {
            return tell(MISSING);
        }
        if (source.bits != target.bits) {
            return tell(KIND);
        }
        if (!source.hasRange(from, n) || !target.hasRange(to, n)) {
            return tell(BEYOND);
        }
        System.arraycopy(source.numbers, from, target.numbers, to, n);
        return n;
    }

    public int load(int s) {
        if (!isSheet(s)) {
            return tell(BEYOND);
        }
        Sheet sheet = sheets[s];
        if (sheet.isMissing()) {
            return tell(MISSING);
        }
        int end = Math.min(sheet.size, now.wall.blocks);
        int read = 0;
        while (read < end && isWithin(sheet.numbers[read], 1, MOST_GRAINS)) {
            if (!now.wall.isGone(read)) {
                now.wall.grains[read] = sheet.numbers[read];
            }
            read++;
        }
        return read;
    }

    public int judge(int s) {
        if (!isSheet(s)) {
            return tell(BEYOND);
        }
        Sheet sheet = sheets[s];
        if (sheet.isMissing()) {
            return tell(MISSING);
        }
        Wall wall = now.wall;
        long there = 0L;
        for (int place = 0; place < sheet.size; place++) {
            int block = sheet.numbers[place];
            if (!wall.isBlock(block) || !wall.isComer(block, there)) {
                return 1 + place;
            }
            there |= wall.cellBit(block);
        }
        return there == wall.occupied() ? 0 : MOST_NUMBERS + 1;
    }

    // ---- images

    public int image() {
        kept.copyFrom(now);
        isKept = true;
        return 1;
    }

    public int undo() {
        if (!isKept) {
            return tell(NONE);
        }
        now.copyFrom(kept);
        return now.hour;
    }

    public int tear() {
        int was = isKept ? 1 : 0;
        isKept = false;
        return was;
    }

    public int count(int what) {
        switch (what) {
            case 0:
                return now.hour;
            case 1:
                return now.wall.blocks;
            case 2:
                return Integer.bitCount(now.wall.goneSet());
            case 3:
                return now.wall.allGrains();
            case 4:
                return now.air;
            case 5:
                return now.rubble;
            case 6:
                return tape.size;
            case 7:
                return now.z;
            default:
                return tell(BEYOND);
        }
    }

    public int status(int which) {
        if (!isWithin(which, -1, FINDINGS - 1)) {
            return tell(BEYOND);
        }
        if (which >= 0) {
            return found[which];
        }
        int all = 0;
        for (int i = 0; i < FINDINGS; i++) {
            all += found[i];
        }
        return all;
    }

    // ---- what the calls share

    private int tell(int finding) {
        int which = LOW - finding;
        if (isWithin(which, 0, FINDINGS - 1)) {
            found[which]++;
        }
        return finding;
    }

    private boolean hasHours(int n) {
        return now.hour + n <= LAST_HOUR;
    }

    private Palace freshTrial() {
        trial.copyFrom(now);
        return trial;
    }

    private static boolean isWithin(int v, int least, int most) {
        return v >= least && v <= most;
    }

    private static boolean isKind(int kind) {
        return isWithin(kind, 0, KINDS - 1);
    }

    private static boolean isCell(int cell) {
        return isWithin(cell, 0, CELLS - 1);
    }

    private static boolean isCandle(int candle) {
        return isWithin(candle, 0, CANDLES - 1);
    }

    private static boolean isTune(int t) {
        return isWithin(t, LEAST_TUNE, MOST_TUNE);
    }

    private static boolean isSpot(int spot) {
        return isWithin(spot, 0, SPOTS - 1);
    }

    private static boolean isSheet(int s) {
        return isWithin(s, 0, SHEETS - 1);
    }

    /** Whether a kind is another one or stands under it in the tree of kinds. */
    private static boolean isUnder(int kind, int other) {
        int above = kind;
        for (int level = 0; level < KINDS && isKind(above); level++) {
            if (above == other) {
                return true;
            }
            above = KIND_ABOVE[above];
        }
        return false;
    }

    /** The blocks and their cells. Sets of blocks are bits of an int, sets of cells bits of a long. */
    private static final class Wall {
        int blocks;
        final int[] kinds = new int[MOST_BLOCKS];
        /** -1 for a block that is GONE. */
        final int[] cells = new int[MOST_BLOCKS];
        final int[] grains = new int[MOST_BLOCKS];
        /** The block on each cell; -1 for none. */
        final int[] onCell = new int[CELLS];

        Wall() {
            Arrays.fill(onCell, -1);
        }

        void copyFrom(Wall other) {
            blocks = other.blocks;
            System.arraycopy(other.kinds, 0, kinds, 0, MOST_BLOCKS);
            System.arraycopy(other.cells, 0, cells, 0, MOST_BLOCKS);
            System.arraycopy(other.grains, 0, grains, 0, MOST_BLOCKS);
            System.arraycopy(other.onCell, 0, onCell, 0, CELLS);
        }

        boolean isBlock(int block) {
            return block >= 0 && block < blocks;
        }

        boolean isFull() {
            return blocks >= MOST_BLOCKS;
        }

        boolean isGone(int block) {
            return cells[block] < 0;
        }

        int blockAt(int cell) {
            return isCell(cell) ? onCell[cell] : -1;
        }

        /** The bit of a block's cell; no bit for one that is GONE. */
        long cellBit(int block) {
            return cells[block] < 0 ? 0L : 1L << cells[block];
        }

        int build(int kind, int cell, int many) {
            int block = blocks;
            if (isFull() || !isCell(cell)) {
                return -1;
            }
            blocks++;
            kinds[block] = kind;
            cells[block] = cell;
            grains[block] = many;
            onCell[cell] = block;
            return block;
        }

        int move(int block, int cell) {
            int was = cells[block];
            if (isCell(was) && isCell(cell)) {
                onCell[was] = -1;
                onCell[cell] = block;
                cells[block] = cell;
            }
            return was;
        }

        /** Gives a block grains as far as it has room: how many it got. */
        int thicken(int block, int many) {
            int got = Math.min(many, MOST_GRAINS - grains[block]);
            grains[block] += got;
            return got;
        }

        /** Makes a block GONE: the grains that it had. */
        int remove(int block) {
            int had = grains[block];
            int cell = cells[block];
            if (isCell(cell)) {
                onCell[cell] = -1;
            }
            cells[block] = -1;
            grains[block] = 0;
            return had;
        }

        int allGrains() {
            int all = 0;
            for (int block = 0; block < blocks; block++) {
                all += grains[block];
            }
            return all;
        }

        int goneSet() {
            int set = 0;
            for (int block = 0; block < blocks; block++) {
                if (isGone(block)) {
                    set |= 1 << block;
                }
            }
            return set;
        }

        long occupied() {
            long all = 0L;
            for (int block = 0; block < blocks; block++) {
                all |= cellBit(block);
            }
            return all;
        }

        /** Whether a block STANDS where those that stand are on the cells of a set. */
        boolean standsBy(int block, long there) {
            int cell = cells[block];
            if (cell < COLUMNS) {
                return cell >= 0;
            }
            boolean below = (there >>> (cell - COLUMNS) & 1L) != 0L;
            boolean left = cell % COLUMNS > 0 && (there >>> (cell - 1) & 1L) != 0L;
            boolean right = cell % COLUMNS < COLUMNS - 1 && (there >>> (cell + 1) & 1L) != 0L;
            switch (kinds[block]) {
                case ARCH:
                case THRONE:
                    return below || (left && right);
                case BEAM:
                case LINTEL:
                    return below || left || right;
                case ICICLE:
                    // Above ROW 5 no bit is ever set: the wall ends there, and a long has room for one row more.
                    return (there >>> (cell + COLUMNS) & 1L) != 0L;
                default:
                    return below;
            }
        }

        /** The cells of all blocks that STAND. */
        long standing() {
            long stand = 0L;
            for (int round = 0; round <= MOST_BLOCKS; round++) {
                long before = stand;
                for (int block = 0; block < blocks; block++) {
                    if (standsBy(block, stand)) {
                        stand |= cellBit(block);
                    }
                }
                if (stand == before) {
                    break;
                }
            }
            return stand;
        }

        int looseSet() {
            long stand = standing();
            int set = 0;
            for (int block = 0; block < blocks; block++) {
                if (!isGone(block) && (stand & cellBit(block)) == 0L) {
                    set |= 1 << block;
                }
            }
            return set;
        }

        int weakSet() {
            int set = 0;
            for (int block = 0; block < blocks; block++) {
                if (loadOf(block) > strengthOf(block)) {
                    set |= 1 << block;
                }
            }
            return set;
        }

        int shakenSet(int beats) {
            int set = 0;
            for (int block = 0; block < blocks; block++) {
                if (!isGone(block) && beats > 0 && grains[block] % beats == 0) {
                    set |= 1 << block;
                }
            }
            return set;
        }

        int loadOf(int block) {
            if (isGone(block)) {
                return 0;
            }
            int load = 0;
            for (int above = cells[block] + COLUMNS; above < CELLS; above += COLUMNS) {
                int next = onCell[above];
                if (next < 0) {
                    break;
                }
                load += grains[next];
            }
            return load;
        }

        int strengthOf(int block) {
            if (isGone(block)) {
                return 0;
            }
            int plain = 4 * grains[block];
            switch (kinds[block]) {
                case THRONE:
                    return plain + 20;
                case PILLAR:
                    return 3 * plain;
                case LINTEL:
                    return 2 * plain;
                default:
                    return plain;
            }
        }

        /** Whether a block isn't there yet (nor GONE) and would STAND by those that are. */
        boolean isComer(int block, long there) {
            return (there & cellBit(block)) == 0L && standsBy(block, there);
        }

        /** The first block, from a number on, that can come; -1 if none can. */
        int nextComer(long there, int from) {
            for (int block = from; block < blocks; block++) {
                if (isComer(block, there)) {
                    return block;
                }
            }
            return -1;
        }

        /** The cells of those that come in one step; one that comes bears no other of its own step. */
        long comers(long there, int men) {
            long came = 0L;
            int from = 0;
            for (int man = 0; man < men; man++) {
                int next = nextComer(there, from);
                if (next < 0) {
                    break;
                }
                came |= cellBit(next);
                from = next + 1;
            }
            return came;
        }
    }

    /** What makes the cells warm: the candles and the warmth outside. */
    private static final class Candles {
        final int[] cells = new int[CANDLES];
        final int[] powers = new int[CANDLES];
        int litSet;
        int cold = -5;

        void copyFrom(Candles other) {
            System.arraycopy(other.cells, 0, cells, 0, CANDLES);
            System.arraycopy(other.powers, 0, powers, 0, CANDLES);
            litSet = other.litSet;
            cold = other.cold;
        }

        boolean isLit(int candle) {
            return (litSet >>> candle & 1) != 0;
        }

        void setLit(int candle, boolean is) {
            int bit = 1 << candle;
            litSet = is ? litSet | bit : litSet & ~bit;
        }

        int lightOf(int set) {
            int light = 0;
            for (int candle = 0; candle < CANDLES; candle++) {
                if ((set >>> candle & 1) != 0) {
                    light += powers[candle];
                }
            }
            return light;
        }

        int warmthAt(int cell) {
            int warmth = cold;
            for (int candle = 0; candle < CANDLES; candle++) {
                if (isLit(candle)) {
                    warmth += powers[candle] / (far(cells[candle], cell) + 1);
                }
            }
            return warmth;
        }

        private static int far(int cell, int other) {
            return Math.abs(cell / COLUMNS - other / COLUMNS) + Math.abs(cell % COLUMNS - other % COLUMNS);
        }
    }

    /** All that an image keeps, and how hours and dances change it. */
    private static final class Palace {
        final Wall wall = new Wall();
        final Candles candles = new Candles();
        final int[] spots = new int[SPOTS];
        int hour;
        int air;
        int rubble;
        int z = 1;
        private final int[] warmths = new int[MOST_BLOCKS];
        private final int[] drips = new int[COLUMNS];

        Palace() {
            Arrays.fill(spots, -1);
        }

        void copyFrom(Palace other) {
            wall.copyFrom(other.wall);
            candles.copyFrom(other.candles);
            System.arraycopy(other.spots, 0, spots, 0, SPOTS);
            hour = other.hour;
            air = other.air;
            rubble = other.rubble;
            z = other.z;
        }

        int draw() {
            z = z * 1103515245 + 12345;
            return z >>> 8;
        }

        /** Lets hours go: how many blocks are GONE by them. */
        int passHours(int n) {
            feelWarmth();
            int gone = 0;
            for (int i = 0; i < n; i++) {
                gone += passHour();
            }
            return gone;
        }

        /** Lets hours go till a block is GONE by one: how many went before that one. */
        int hoursHeld(int most) {
            feelWarmth();
            for (int held = 0; held < most; held++) {
                if (passHour() > 0) {
                    return held;
                }
            }
            return most;
        }

        /** Lets hours go till a block is GONE: how many; one above the most if it isn't by then. */
        int goneIn(int block, int most) {
            feelWarmth();
            for (int i = 1; i <= most; i++) {
                passHour();
                if (wall.isGone(block)) {
                    return i;
                }
            }
            return most + 1;
        }

        /** Hours move neither candles nor blocks, so the warmth taken ahead of them serves them all. */
        private void feelWarmth() {
            for (int block = 0; block < wall.blocks; block++) {
                warmths[block] = wall.isGone(block) ? 0 : candles.warmthAt(wall.cells[block]);
            }
        }

        private int passHour() {
            Arrays.fill(drips, 0);
            for (int block = 0; block < wall.blocks; block++) {
                if (!wall.isGone(block)) {
                    meltOrMend(block);
                }
            }
            for (int column = 0; column < COLUMNS; column++) {
                freezeDrip(column);
            }
            int gone = removeMelted() + collapse();
            hour++;
            return gone;
        }

        private void meltOrMend(int block) {
            int warmth = warmths[block];
            if (warmth > 0) {
                int lost = Math.min(warmth, wall.grains[block]);
                wall.grains[block] -= lost;
                drips[wall.cells[block] % COLUMNS] += lost / 2;
                air += lost - lost / 2;
            } else if (warmth < 0) {
                air -= wall.thicken(block, Math.min(-warmth / 2, air));
            }
        }

        private void freezeDrip(int column) {
            int drip = drips[column];
            for (int cell = column; cell < CELLS; cell += COLUMNS) {
                int block = wall.onCell[cell];
                if (block >= 0 && warmths[block] < 0) {
                    drip -= wall.thicken(block, drip);
                    break;
                }
            }
            air += drip;
        }

        private int removeMelted() {
            int gone = 0;
            for (int block = 0; block < wall.blocks; block++) {
                if (!wall.isGone(block) && wall.grains[block] <= 0) {
                    wall.remove(block);
                    gone++;
                }
            }
            return gone;
        }

        /** A FALL: how many blocks are GONE by it. */
        int collapse() {
            int gone = 0;
            for (int round = 0; round <= MOST_BLOCKS; round++) {
                int falling = wall.looseSet() | wall.weakSet();
                if (falling == 0) {
                    break;
                }
                for (int block = 0; block < wall.blocks; block++) {
                    if ((falling >>> block & 1) != 0) {
                        rubble += wall.remove(block);
                        gone++;
                    }
                }
            }
            return gone;
        }

        /** Dances to a tune: how many blocks are GONE by it. */
        int danceTo(int beats) {
            int shaken = wall.shakenSet(beats);
            for (int block = 0; block < wall.blocks; block++) {
                if ((shaken >>> block & 1) != 0) {
                    wall.grains[block]--;
                    air++;
                }
            }
            return removeMelted() + collapse();
        }
    }

    /** THE TAPE. */
    private static final class Tape {
        final int[] bytes = new int[MOST_BYTES];
        int size;

        void append(int b) {
            if (size < MOST_BYTES) {
                bytes[size] = b;
                size++;
            }
        }

        /** The byte at a place; -1 where there is none. */
        int byteAt(int place) {
            return place >= 0 && place < size ? bytes[place] : -1;
        }
    }

    /** Reads the tape as a TEXT, token by token. What can't stand there is always the token at hand. */
    private static final class TextReader {
        private static final int END = 0;
        private static final int WORD = 1;
        private static final int NUMBER = 2;
        private static final int SEMICOLON = 3;
        private static final int MINUS = 4;
        private static final int STRANGE = 5;

        final Tape tape = new Tape();
        private int token;
        private int start;
        private int end;
        private int value;

        /** Does what the text tells to a palace: how many items; with a FAULT -1 less its place. */
        int readInto(Palace palace) {
            end = 0;
            advance();
            for (int items = 1; items <= MOST_BYTES; items++) {
                if (!readItem(palace)) {
                    break;
                }
                if (token == END) {
                    return items;
                }
                if (token != SEMICOLON) {
                    break;
                }
                advance();
            }
            return -1 - start;
        }

        private boolean readItem(Palace palace) {
            int kind = kindOfWord();
            if (kind >= 0) {
                return readBlock(palace.wall, kind);
            }
            if (isWord("candle")) {
                return readCandle(palace.candles);
            }
            return isWord("cold") && readCold(palace.candles);
        }

        private boolean readBlock(Wall wall, int kind) {
            if (wall.isFull()) {
                return false;
            }
            advance();
            if (!isNumber(0, CELLS - 1) || wall.blockAt(value) >= 0) {
                return false;
            }
            int cell = value;
            int grains = GRAINS_UNTOLD;
            advance();
            if (isWord("grains")) {
                advance();
                if (!isNumber(1, MOST_GRAINS)) {
                    return false;
                }
                grains = value;
                advance();
            }
            wall.build(kind, cell, grains);
            return true;
        }

        private boolean readCandle(Candles candles) {
            advance();
            if (!isNumber(0, CANDLES - 1)) {
                return false;
            }
            int candle = value;
            advance();
            if (!isWord("at")) {
                return false;
            }
            advance();
            if (!isNumber(0, CELLS - 1)) {
                return false;
            }
            candles.cells[candle] = value;
            advance();
            if (isWord("power")) {
                advance();
                if (!isNumber(0, MOST_POWER)) {
                    return false;
                }
                candles.powers[candle] = value;
                advance();
            }
            boolean isLit = isWord("lit");
            candles.setLit(candle, isLit);
            if (isLit) {
                advance();
            }
            return true;
        }

        private boolean readCold(Candles candles) {
            advance();
            boolean isNegative = token == MINUS;
            if (isNegative) {
                advance();
            }
            if (!isNumber(0, MOST_COLD)) {
                return false;
            }
            candles.cold = isNegative ? -value : value;
            advance();
            return true;
        }

        private int kindOfWord() {
            if (isWord("block")) {
                return 0;
            }
            if (isWord("arch")) {
                return ARCH;
            }
            if (isWord("beam")) {
                return BEAM;
            }
            if (isWord("throne")) {
                return THRONE;
            }
            if (isWord("pillar")) {
                return PILLAR;
            }
            if (isWord("lintel")) {
                return LINTEL;
            }
            return isWord("icicle") ? ICICLE : -1;
        }

        private boolean isNumber(int least, int most) {
            return token == NUMBER && isWithin(value, least, most);
        }

        private boolean isWord(String word) {
            if (token != WORD || end - start != word.length()) {
                return false;
            }
            for (int i = 0; i < word.length(); i++) {
                if (tape.byteAt(start + i) != word.charAt(i)) {
                    return false;
                }
            }
            return true;
        }

        /** Takes the next token; at the end its place is how many bytes there are. */
        private void advance() {
            start = end;
            while (start < tape.size && tape.byteAt(start) == ' ') {
                start++;
            }
            int first = tape.byteAt(start);
            end = start + 1;
            if (first < 0) {
                token = END;
                end = start;
            } else if (isLetter(first)) {
                token = WORD;
                while (end < tape.size && isLetter(tape.byteAt(end))) {
                    end++;
                }
            } else if (isDigit(first)) {
                token = NUMBER;
                takeNumber();
            } else if (first == ';') {
                token = SEMICOLON;
            } else {
                token = first == '-' ? MINUS : STRANGE;
            }
        }

        private void takeNumber() {
            end = start;
            value = 0;
            while (end < tape.size && isDigit(tape.byteAt(end))) {
                // Above all that any number may be it needs no more digits, and must not wrap around.
                value = Math.min(1000, 10 * value + tape.byteAt(end) - '0');
                end++;
            }
        }

        private static boolean isLetter(int b) {
            return b >= 'a' && b <= 'z';
        }

        private static boolean isDigit(int b) {
            return b >= '0' && b <= '9';
        }
    }

    /** A row of numbers; of 0 bits: it is MISSING. */
    private static final class Sheet {
        int bits;
        int size;
        final int[] numbers = new int[MOST_NUMBERS];

        boolean isMissing() {
            return bits == 0;
        }

        int lay(int newBits, int n) {
            bits = newBits;
            size = newBits == 0 ? 0 : n;
            Arrays.fill(numbers, 0);
            return size;
        }

        void put(int i, int v) {
            if (bits == 8) {
                numbers[i] = (byte) v;
            } else if (bits == 16) {
                numbers[i] = (short) v;
            } else {
                numbers[i] = v;
            }
        }

        /** Whether there are n numbers from one on; asked so that no sum can wrap around. */
        boolean hasRange(int from, int n) {
            return from >= 0 && n >= 0 && n <= size && from <= size - n;
        }
    }
}
