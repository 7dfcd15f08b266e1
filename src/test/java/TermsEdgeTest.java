import java.util.function.Supplier;
import java.util.function.ToIntFunction;

/** The sentences of "Terms": findings, the wall, an hour, a text. */
public final class TermsEdgeTest extends Edges {
    private static final String[] KINDS = {"block", "arch", "beam", "throne", "pillar", "lintel", "icicle"};

    private TermsEdgeTest() {
        super("TermsEdgeTest", 0, 0);
    }

    public static void main(String[] args) {
        TermsEdgeTest test = new TermsEdgeTest();
        test.findings();
        test.orderOfFindings();
        test.findingsChangeNothing();
        test.quotientsAndSets();
        test.wall();
        test.blocks();
        test.stands();
        test.loads();
        test.strengths();
        test.candles();
        test.meltingAndFrost();
        test.dripAndFall();
        test.ahead();
        test.tokens();
        test.items();
        test.faults();
        test.spotsAndSheets();
        test.end();
    }

    // ---- findings

    private void findings() {
        says(0, "FINDINGS are answers below -1000000: LOW is -1000001; LOW BEYOND, LOW - 1 FULL, LOW - 2 KIND, "
            + "LOW - 3 NONE, LOW - 4 STATE, LOW - 5 MISSING, LOW - 6 SIZE.");
        IcePalace x = rich();
        same("BEYOND", x.on(48), -1000001);
        same("FULL", fullTape().feed(0, 1), -1000002);
        same("KIND", x.as(0, ICICLE), -1000003);
        same("NONE", new IcePalace().undo(), -1000004);
        same("STATE", x.take(1, 20), -1000005);
        same("MISSING", x.load(3), -1000006);
        same("SIZE", x.sheet(0, 8, -1), -1000007);
        says(0, "What seed() and count(7) tell, z, may be any int: that is no finding.");
        for (int z : new int[] {BEYOND, FULL, KIND, NONE, STATE, MISSING, SIZE, SIZE - 1, MIN, -1, 0, MAX}) {
            IcePalace y = new IcePalace();
            y.seed(z);
            same("count(7) of " + z, y.count(7), z);
            same("seed(5) behind " + z, y.seed(5), z);
            same("it is put all the same", y.count(7), 5);
            same("none is counted", y.status(-1), 0);
        }
    }

    /** A palace with something of all that there is; blocks 1 and 3 are GONE, but block 3 isn't in what is kept. */
    private static IcePalace rich() {
        IcePalace x = palace("block 0 grains 30;block 47 grains 3;arch 8 grains 6;candle 2 at 9 power 12 lit;candle 4 at 30;cold -6");
        x.fall();
        x.block(BEAM, 20, 7);
        x.hold(0, 2);
        x.hold(5, 1);
        x.seed(99);
        write(x, 0, 8, 5, 6, 7, 8, 9);
        write(x, 1, 8, 15, 16, 17, 18, 19);
        write(x, 2, 16, 25, 26, 27);
        x.image();
        x.hours(1);
        x.cold(-7);
        feed(x, "cold 3");
        return x;
    }

    private static IcePalace sixteen() {
        IcePalace x = rich();
        for (int b = x.count(1); b < 16; b++) {
            x.block(BLOCK, 24 + b, b);
        }
        return x;
    }

    private static IcePalace fullTape() {
        IcePalace x = rich();
        for (int bytes = x.count(6); bytes < 120; bytes += 2) {
            x.feed(0x2020, 2);
        }
        return x;
    }

    /** At the last hour, with block 0 GONE, block 1 there, and no candle lit. */
    private static IcePalace atTheEnd() {
        IcePalace x = aged(9999);
        x.block(BLOCK, 47, 4);
        x.fall();
        x.block(BLOCK, 0, 4);
        return x;
    }

    private void first(String call, int finding, Supplier<IcePalace> made, ToIntFunction<IcePalace> act) {
        same(call, act.applyAsInt(made.get()), finding);
    }

    private void orderOfFindings() {
        says(0, "Each act tells its findings in the order in which they are asked (that of its words);");
        first("block: BEYOND, FULL, STATE", BEYOND, TermsEdgeTest::sixteen, x -> x.block(7, 0, 5));
        first("block: BEYOND, FULL, STATE", BEYOND, TermsEdgeTest::sixteen, x -> x.block(0, 0, 0));
        first("block: FULL, STATE", FULL, TermsEdgeTest::sixteen, x -> x.block(0, 0, 5));
        first("block: BEYOND, STATE", BEYOND, TermsEdgeTest::rich, x -> x.block(0, 0, 100));
        first("take: BEYOND, STATE (GONE)", BEYOND, TermsEdgeTest::rich, x -> x.take(1, 48));
        first("water: BEYOND, STATE (GONE)", BEYOND, TermsEdgeTest::rich, x -> x.water(1, 0));
        first("hours: BEYOND, STATE", BEYOND, TermsEdgeTest::atTheEnd, x -> x.hours(49));
        first("ahead: BEYOND, STATE", BEYOND, TermsEdgeTest::atTheEnd, x -> x.ahead(97, 0));
        first("ahead: BEYOND (what), STATE", BEYOND, TermsEdgeTest::atTheEnd, x -> x.ahead(9, 5));
        first("goes: BEYOND, STATE", BEYOND, TermsEdgeTest::atTheEnd, x -> x.goes(2));
        first("goes: STATE, NONE", STATE, TermsEdgeTest::atTheEnd, x -> x.goes(1));
        first("deal: BEYOND, STATE", BEYOND, TermsEdgeTest::atTheEnd, x -> x.deal(49));
        first("deal: STATE, NONE", STATE, () -> loose(atTheEnd()), x -> x.deal(1));
        first("bears: BEYOND, STATE", BEYOND, TermsEdgeTest::atTheEnd, x -> x.bears(49));
        first("bears: STATE, NONE", STATE, () -> loose(atTheEnd()), x -> x.bears(1));
        first("needs: BEYOND, STATE (hours)", BEYOND, TermsEdgeTest::atTheEnd, x -> x.needs(1, 49));
        first("needs: BEYOND, STATE (GONE)", BEYOND, TermsEdgeTest::atTheEnd, x -> x.needs(0, 0));
        first("needs: STATE, NONE", STATE, () -> loose(atTheEnd()), x -> x.needs(1, 1));
        first("mend: BEYOND, STATE", BEYOND, TermsEdgeTest::atTheEnd, x -> x.mend(99));
        first("mend: STATE, NONE", STATE, () -> aged(9999), x -> x.mend(1));
        first("whose: BEYOND, STATE", BEYOND, TermsEdgeTest::atTheEnd, x -> x.whose(2));
        first("whose: STATE, NONE", STATE, TermsEdgeTest::atTheEnd, x -> x.whose(1));
        first("whose: STATE (GONE), NONE", STATE, TermsEdgeTest::atTheEnd, x -> x.whose(0));
        first("drawing: BEYOND, STATE", BEYOND, TermsEdgeTest::atTheEnd, x -> x.drawing(0, 25, 0));
        first("drawing: STATE, NONE", STATE, TermsEdgeTest::atTheEnd, x -> x.drawing(1, 1, 99));
        first("feed: BEYOND, FULL", BEYOND, TermsEdgeTest::fullTape, x -> x.feed(0, 5));
        first("as: BEYOND, MISSING", BEYOND, TermsEdgeTest::rich, x -> x.as(9, 7));
        first("as: BEYOND, KIND", BEYOND, TermsEdgeTest::rich, x -> x.as(0, -1));
        first("as: MISSING, KIND", MISSING, TermsEdgeTest::rich, x -> x.as(9, ICICLE));
        first("sheet: BEYOND, SIZE", BEYOND, TermsEdgeTest::rich, x -> x.sheet(4, 8, -1));
        first("sheet: BEYOND (bits), SIZE", BEYOND, TermsEdgeTest::rich, x -> x.sheet(0, 7, -1));
        first("write: BEYOND, MISSING", BEYOND, TermsEdgeTest::rich, x -> x.write(4, 0, 0));
        first("write: MISSING, BEYOND", MISSING, TermsEdgeTest::rich, x -> x.write(3, -1, 0));
        first("copy: BEYOND, MISSING", BEYOND, TermsEdgeTest::rich, x -> x.copy(3, 0, 4, 0, 1));
        first("copy: MISSING, KIND", MISSING, TermsEdgeTest::rich, x -> x.copy(2, 0, 3, 0, 1));
        first("copy: MISSING, BEYOND", MISSING, TermsEdgeTest::rich, x -> x.copy(3, 0, 3, 0, -1));
        first("copy: KIND, BEYOND", KIND, TermsEdgeTest::rich, x -> x.copy(0, 0, 2, 0, 41));
    }

    private void findingsChangeNothing() {
        says(0, "one that answers a finding changes nothing but status().");
        refusedBlocks();
        refusedHours();
        refusedBuilding();
        refusedSheets();
    }

    private void refusedBlocks() {
        refused("block(7, 1, 5)", BEYOND, TermsEdgeTest::rich, x -> x.block(7, 1, 5));
        refused("block(0, 48, 5)", BEYOND, TermsEdgeTest::rich, x -> x.block(0, 48, 5));
        refused("block(0, 1, 100)", BEYOND, TermsEdgeTest::rich, x -> x.block(0, 1, 100));
        refused("block(0, 1, 5)", FULL, TermsEdgeTest::sixteen, x -> x.block(0, 1, 5));
        refused("block(1, 0, 5)", STATE, TermsEdgeTest::rich, x -> x.block(1, 0, 5));
        refused("blockOf(0, 7)", BEYOND, TermsEdgeTest::rich, x -> x.blockOf(0, 7));
        refused("turn(0, 7)", BEYOND, TermsEdgeTest::rich, x -> x.turn(0, 7));
        refused("turn(4, 1)", BEYOND, TermsEdgeTest::rich, x -> x.turn(4, 1));
        refused("take(0, 48)", BEYOND, TermsEdgeTest::rich, x -> x.take(0, 48));
        refused("take(0, 8)", STATE, TermsEdgeTest::rich, x -> x.take(0, 8));
        refused("take(1, 30)", STATE, TermsEdgeTest::rich, x -> x.take(1, 30));
        refused("on(48)", BEYOND, TermsEdgeTest::rich, x -> x.on(48));
        refused("water(0, 100)", BEYOND, TermsEdgeTest::rich, x -> x.water(0, 100));
        refused("water(1, 9)", STATE, TermsEdgeTest::rich, x -> x.water(1, 9));
        refused("candle(2, 0, 48)", BEYOND, TermsEdgeTest::rich, x -> x.candle(2, 0, 48));
        refused("candle(2, 1, 31)", BEYOND, TermsEdgeTest::rich, x -> x.candle(2, 1, 31));
        refused("candle(2, 2, 3)", BEYOND, TermsEdgeTest::rich, x -> x.candle(2, 2, 3));
        refused("lit(6, true)", BEYOND, TermsEdgeTest::rich, x -> x.lit(6, true));
        refused("cold(21)", BEYOND, TermsEdgeTest::rich, x -> x.cold(21));
        refused("warmth(48)", BEYOND, TermsEdgeTest::rich, x -> x.warmth(48));
    }

    private void refusedHours() {
        refused("hours(49)", BEYOND, TermsEdgeTest::rich, x -> x.hours(49));
        refused("hours(1)", STATE, TermsEdgeTest::atTheEnd, x -> x.hours(1));
        refused("ahead(97, 1)", BEYOND, TermsEdgeTest::rich, x -> x.ahead(97, 1));
        refused("ahead(1, 1)", STATE, TermsEdgeTest::atTheEnd, x -> x.ahead(1, 1));
        refused("goes(4)", BEYOND, TermsEdgeTest::rich, x -> x.goes(4));
        refused("goes(1)", STATE, TermsEdgeTest::rich, x -> x.goes(1));
        refused("goes(0)", NONE, () -> palace("block 0"), x -> x.goes(0));
        refused("holds()", STATE, TermsEdgeTest::atTheEnd, x -> x.holds());
        refused("deal(0)", BEYOND, TermsEdgeTest::rich, x -> x.deal(0));
        refused("deal(1)", STATE, TermsEdgeTest::atTheEnd, x -> x.deal(1));
        refused("deal(1)", NONE, () -> loose(rich()), x -> x.deal(1));
        refused("bears(0)", BEYOND, TermsEdgeTest::rich, x -> x.bears(0));
        refused("bears(1)", STATE, TermsEdgeTest::atTheEnd, x -> x.bears(1));
        refused("bears(1)", NONE, () -> loose(rich()), x -> x.bears(1));
        refused("needs(0, 0)", BEYOND, TermsEdgeTest::rich, x -> x.needs(0, 0));
        refused("needs(1, 1)", STATE, TermsEdgeTest::rich, x -> x.needs(1, 1));
        refused("needs(0, 1)", NONE, () -> loose(rich()), x -> x.needs(0, 1));
        refused("mend(99)", BEYOND, TermsEdgeTest::rich, x -> x.mend(99));
        refused("mend(1)", STATE, TermsEdgeTest::atTheEnd, x -> x.mend(1));
        refused("mend(1)", NONE, IcePalace::new, x -> x.mend(1));
        refused("whose(4)", BEYOND, TermsEdgeTest::rich, x -> x.whose(4));
        refused("whose(1)", STATE, TermsEdgeTest::rich, x -> x.whose(1));
        refused("whose(0)", NONE, () -> palace("block 0"), x -> x.whose(0));
        refused("drawing(0, 0, 9)", BEYOND, TermsEdgeTest::rich, x -> x.drawing(0, 0, 9));
        refused("drawing(1, 1, 9)", STATE, TermsEdgeTest::rich, x -> x.drawing(1, 1, 9));
        refused("drawing(0, 1, 99)", NONE, TermsEdgeTest::rich, x -> x.drawing(0, 1, 99));
    }

    /** Adds a block that falls in any hour. */
    private static IcePalace loose(IcePalace x) {
        x.block(BLOCK, 38, 4);
        return x;
    }

    private void refusedBuilding() {
        refused("order(16)", BEYOND, TermsEdgeTest::rich, x -> x.order(16));
        refused("order(0)", NONE, () -> loose(rich()), x -> x.order(0));
        refused("steps(9)", BEYOND, TermsEdgeTest::rich, x -> x.steps(9));
        refused("steps(1)", NONE, () -> loose(rich()), x -> x.steps(1));
        refused("shakes(1)", BEYOND, TermsEdgeTest::rich, x -> x.shakes(1));
        refused("dance(1)", BEYOND, () -> loose(rich()), x -> x.dance(1));
        refused("dance(10)", BEYOND, () -> loose(rich()), x -> x.dance(10));
        refused("wind(21)", BEYOND, TermsEdgeTest::rich, x -> x.wind(21));
        refused("wind(0)", BEYOND, TermsEdgeTest::rich, x -> x.wind(0));
        refused("feed(0, 5)", BEYOND, TermsEdgeTest::rich, x -> x.feed(0, 5));
        refused("feed(0, 1)", FULL, TermsEdgeTest::fullTape, x -> x.feed(0, 1));
    }

    private void refusedSheets() {
        refused("hold(0, 4)", BEYOND, TermsEdgeTest::rich, x -> x.hold(0, 4));
        refused("hold(0, -2)", BEYOND, TermsEdgeTest::rich, x -> x.hold(0, -2));
        refused("hold(10, 0)", BEYOND, TermsEdgeTest::rich, x -> x.hold(10, 0));
        refused("as(0, 7)", BEYOND, TermsEdgeTest::rich, x -> x.as(0, 7));
        refused("as(9, 0)", MISSING, TermsEdgeTest::rich, x -> x.as(9, 0));
        refused("as(0, 6)", KIND, TermsEdgeTest::rich, x -> x.as(0, 6));
        refused("sheet(0, 7, 5)", BEYOND, TermsEdgeTest::rich, x -> x.sheet(0, 7, 5));
        refused("sheet(0, 8, 41)", BEYOND, TermsEdgeTest::rich, x -> x.sheet(0, 8, 41));
        refused("sheet(0, 0, 41)", BEYOND, TermsEdgeTest::rich, x -> x.sheet(0, 0, 41));
        refused("sheet(0, 8, -1)", SIZE, TermsEdgeTest::rich, x -> x.sheet(0, 8, -1));
        refused("sheet(0, 0, -1)", SIZE, TermsEdgeTest::rich, x -> x.sheet(0, 0, -1));
        refused("write(0, 5, 1)", BEYOND, TermsEdgeTest::rich, x -> x.write(0, 5, 1));
        refused("write(3, 0, 1)", MISSING, TermsEdgeTest::rich, x -> x.write(3, 0, 1));
        refused("copy(0, 0, 1, 0, 6)", BEYOND, TermsEdgeTest::rich, x -> x.copy(0, 0, 1, 0, 6));
        refused("copy(0, 3, 1, 0, 3)", BEYOND, TermsEdgeTest::rich, x -> x.copy(0, 3, 1, 0, 3));
        refused("copy(0, 0, 1, 3, 3)", BEYOND, TermsEdgeTest::rich, x -> x.copy(0, 0, 1, 3, 3));
        refused("copy(0, 0, 3, 0, 1)", MISSING, TermsEdgeTest::rich, x -> x.copy(0, 0, 3, 0, 1));
        refused("copy(0, 0, 2, 0, 1)", KIND, TermsEdgeTest::rich, x -> x.copy(0, 0, 2, 0, 1));
        refused("load(4)", BEYOND, TermsEdgeTest::rich, x -> x.load(4));
        refused("load(3)", MISSING, TermsEdgeTest::rich, x -> x.load(3));
        refused("judge(4)", BEYOND, TermsEdgeTest::rich, x -> x.judge(4));
        refused("judge(3)", MISSING, TermsEdgeTest::rich, x -> x.judge(3));
        refused("undo()", NONE, () -> torn(rich()), x -> x.undo());
        refused("count(8)", BEYOND, TermsEdgeTest::rich, x -> x.count(8));
        refused("status(7)", BEYOND, TermsEdgeTest::rich, x -> x.status(7));
        refused("status(-2)", BEYOND, TermsEdgeTest::rich, x -> x.status(-2));
    }

    private static IcePalace torn(IcePalace x) {
        x.tear();
        return x;
    }

    private void quotientsAndSets() {
        says(0, "Quotients are cut.");
        IcePalace x = palace("candle 0 at 0 power 5 lit;candle 1 at 0 power 5 lit;cold 0");
        same("5 by 2 twice", x.warmth(1), 4);
        same("5 by 3 twice", x.warmth(2), 2);
        same("5 by 6 twice", x.warmth(5), 0);
        same("5 by 5 twice", x.warmth(4), 2);
        x.cold(-7);
        same("COLD is added to what is cut", x.warmth(1), -3);
        says(0, "Sets are told as bits;");
        IcePalace rows = new IcePalace();
        for (int b = 0; b < 16; b++) {
            rows.block(BLOCK, b, 9);
        }
        rows.take(0, 47);
        rows.take(15, 45);
        same("blocks 0, 8 and 15", rows.loose(), 1 << 15 | 1 << 8 | 1);
        IcePalace cut = chain();
        cut.take(15, 47);
        same("sixteen of them", cut.loose(), 65535);
        same("candles 0 and 5", palace("candle 0 at 0 power 1;candle 5 at 0 power 1;block 7").deal(1), 33);
        says(0, "of several that would do the least number counts, where nothing else is told.");
        same("mend", palace("block 3;block 2;block 1").mend(5), 0);
        same("whose", palace("block 7;candle 5 at 0 lit;candle 3 at 0 lit").whose(0), 3);
        same("tune", palace("block 7 grains 13").tune(), 2);
        same("deal: sets 0 and 1 to 63 give as much light", palace("block 7").deal(48), 0);
    }

    // ---- the wall

    private void wall() {
        says(0, "THE WALL has CELLS: 8 times a ROW (0 to 5; 0 is the lowest) and a COLUMN (0 to 7).");
        for (int cell = 0; cell < 48; cell++) {
            IcePalace x = new IcePalace();
            same("a block on " + cell, x.block(BLOCK, cell, 1), 0);
            same("it is there", x.on(cell), 0);
            same("it stands on the lowest row alone: " + cell, x.loose(), cell < 8 ? 0 : 1);
        }
        range("a cell", 0, 47, cell -> new IcePalace().block(BLOCK, cell, 1));
        says(0, "BESIDE a CELL are those with one COLUMN less and more (same ROW; as far as they are there), "
            + "BELOW and ABOVE those with one ROW less, more.");
        for (int cell = 8; cell < 48; cell++) {
            for (int top = 0; top < 48; top++) {
                besideAndBelow(cell, top);
            }
            above(cell);
        }
        says(0, "FAR of two CELLS: by how many ROWS and by how many COLUMNS they differ, together.");
        for (int cell = 0; cell < 48; cell++) {
            IcePalace x = palace("candle 0 at " + cell + " power 30 lit;cold 0");
            for (int other = 0; other < 48; other++) {
                int far = Math.abs(cell / 8 - other / 8) + Math.abs(cell % 8 - other % 8);
                same("from " + cell + " to " + other, x.warmth(other), 30 / (far + 1));
            }
        }
    }

    /** A beam by a column of blocks that ends on a cell. */
    private void besideAndBelow(int cell, int top) {
        if (cell % 8 == top % 8 && cell <= top) {
            return;
        }
        IcePalace x = new IcePalace();
        x.block(BEAM, cell, 9);
        for (int low = top % 8; low <= top; low += 8) {
            x.block(BLOCK, low, 99);
        }
        boolean beside = Math.abs(cell % 8 - top % 8) == 1 && cell / 8 <= top / 8;
        boolean below = cell - 8 == top;
        same("a beam on " + cell + " by a column up to " + top, x.blockOf(0, 4), beside || below ? 1 : 0);
    }

    /** An icicle under a beam that a column beside bears. */
    private void above(int cell) {
        int column = cell % 8 == 7 ? 6 : cell % 8 + 1;
        IcePalace x = new IcePalace();
        x.block(ICICLE, cell, 9);
        for (int row = 0; row <= cell / 8 + 1 && row < 6; row++) {
            x.block(BLOCK, 8 * row + column, 99);
        }
        same("an icicle on " + cell + " under nothing", x.blockOf(0, 4), 0);
        if (cell < 40) {
            x.block(BEAM, cell + 8, 9);
            same("an icicle on " + cell + " under a beam", x.blockOf(0, 4), 1);
        }
    }

    private void blocks() {
        says(0, "BLOCKS 0, 1, .. (at most 16):");
        IcePalace x = new IcePalace();
        for (int b = 0; b < 16; b++) {
            same("block number " + b, x.block(BLOCK, b, 9), b);
        }
        same("a 17th", x.block(BLOCK, 16, 9), FULL);
        same("blocks", x.count(1), 16);
        says(0, "a CELL (no two on one),");
        same("a second one", palace("block 5").block(BLOCK, 5, 9), STATE);
        same("taken onto another", x.take(0, 1), STATE);
        says(0, "GRAINS (1 to 99; 0 of those GONE),");
        range("grains", 1, 99, grains -> new IcePalace().block(BLOCK, 0, grains));
        IcePalace gone = palace("block 8 grains 7");
        same("grains", gone.blockOf(0, 2), 7);
        gone.fall();
        same("grains of a GONE one", gone.blockOf(0, 2), 0);
        says(0, "of KINDS: 0 BLOCK; 1 ARCH, 2 BEAM, 4 PILLAR, 6 ICICLE under BLOCK; 3 THRONE under ARCH; 5 LINTEL under BEAM.");
        int[] above = {-1, BLOCK, BLOCK, ARCH, BLOCK, BEAM, BLOCK};
        for (int kind = 0; kind < 7; kind++) {
            IcePalace y = palace(KINDS[kind] + " 0");
            same(KINDS[kind], y.blockOf(0, 0), kind);
            y.hold(0, 0);
            for (int as = 0; as < 7; as++) {
                boolean is = as == kind || as == BLOCK || as == above[kind];
                same(KINDS[kind] + " as a " + KINDS[as], y.as(0, as), is ? 0 : KIND);
            }
        }
        says(0, "One that is GONE is on no CELL.");
        same("its cell", gone.blockOf(0, 1), -1);
        same("on its cell", gone.on(8), -1);
        same("another on its cell", gone.block(BLOCK, 8, 1), 1);
    }

    /** Whether block 0 of a text STANDS. */
    private void standing(String text, boolean does) {
        same("block 0 of '" + text + "' stands", palace(text).blockOf(0, 4), does ? 1 : 0);
    }

    private void stands() {
        says(0, "STANDS: those that are found so, again and again, till no more are:");
        same("sixteen, each by the next number's", chain().loose(), 0);
        IcePalace cut = chain();
        cut.take(15, 7);
        same("without the first of them", cut.loose(), 32767);
        same("two that bear one another alone", palace("beam 9;beam 10").loose(), 3);
        same("a ring that bears itself alone", palace("beam 9;block 17;beam 10;icicle 18;lintel 11").loose(), 31);
        says(0, "in ROW 0 (whatever the KIND);");
        for (int kind = 0; kind < 7; kind++) {
            for (int cell = 0; cell < 8; cell++) {
                standing(KINDS[kind] + " " + cell, true);
            }
            standing(KINDS[kind] + " 8", false);
            standing(KINDS[kind] + " 15", false);
        }
        says(0, "BLOCK: if on the CELL BELOW is one that STANDS.");
        standing("block 10;block 2", true);
        standing("block 18;block 10", false);
        standing("block 10;block 1;block 9;block 3;block 11", false);
        standing("block 10;block 1;block 9;block 17;beam 18", false);
        says(0, "ARCH: as a BLOCK, or if on both CELLS BESIDE are ones that STAND.");
        standing("arch 10;block 2", true);
        standing("arch 10;block 1;block 9;block 3;block 11", true);
        standing("arch 10;block 1;block 9", false);
        standing("arch 10;block 3;block 11", false);
        standing("arch 10;block 1;block 9;block 11", false);
        standing("arch 10;block 9;block 3;block 11", false);
        standing("arch 10;block 1;block 9;block 17;beam 18", false);
        // The ends of a row have one cell beside them; the next number is in another row.
        standing("arch 8;block 7;block 1;block 9", false);
        standing("arch 15;block 6;block 14;block 0;block 8;block 16", false);
        says(0, "BEAM: as a BLOCK, or if on one of the CELLS BESIDE is one.");
        standing("beam 10;block 2", true);
        standing("beam 10;block 1;block 9", true);
        standing("beam 10;block 3;block 11", true);
        standing("beam 10;block 9;block 11", false);
        standing("beam 8;block 7", false);
        standing("beam 16;block 7;block 15", false);
        standing("beam 15;block 0;block 8;block 16", false);
        standing("beam 10;block 1;block 9;block 17;arch 18;block 19;block 11;block 3", true);
        says(0, "ICICLE: if on the CELL ABOVE is one (nothing else but ROW 0).");
        standing("icicle 10;beam 18;block 17;block 9;block 1", true);
        standing("icicle 10;beam 18", false);
        standing("icicle 10;block 2", false);
        standing("icicle 10;block 1;block 9;block 3;block 11", false);
        standing("icicle 42;block 41;block 33;block 25;block 17;block 9;block 1;block 34", false);
        standing("icicle 10;icicle 18;beam 26;block 25;block 17;block 9;block 1", true);
        says(0, "(Others as the KIND above.)");
        for (String text : new String[] {" 10;block 2", " 10;block 1;block 9", " 10;block 1;block 9;block 3;block 11",
            " 18;block 10", " 10;block 1;block 9;block 17;beam 18"}) {
            for (int[] pair : new int[][] {{PILLAR, BLOCK}, {THRONE, ARCH}, {LINTEL, BEAM}}) {
                int as = palace(KINDS[pair[1]] + text).blockOf(0, 4);
                same(KINDS[pair[0]] + text, palace(KINDS[pair[0]] + text).blockOf(0, 4), as);
            }
        }
        standing("throne 10;block 1;block 9;block 3;block 11", true);
        standing("lintel 10;block 3;block 11", true);
        standing("pillar 10;block 1;block 9;block 3;block 11", false);
    }

    private void loads() {
        says(0, "LOAD of a BLOCK: GRAINS of all that are on CELLS straight ABOVE it, as far as there is one on each, together.");
        IcePalace x = palace("block 3 grains 99;block 11 grains 99;block 19 grains 99;block 27 grains 99",
            "block 35 grains 99;block 43 grains 98");
        for (int b = 0; b < 6; b++) {
            same("load of " + b + " of six", x.blockOf(b, 5), b == 5 ? 0 : 99 * (4 - b) + 98);
        }
        for (int row = 5; row >= 0; row--) {
            x.take(5 - row, 8 * row + 7);
        }
        same("up to the last cell", x.blockOf(5, 5), 5 * 99);
        for (int b = 0; b < 6; b++) {
            x.take(b, 8 * b + 3);
        }
        x.take(2, 20);
        same("as far as there is one on each", x.blockOf(0, 5), 99);
        same("up to the gap", x.blockOf(1, 5), 0);
        same("above the gap", x.blockOf(3, 5), 197);
        IcePalace y = palace("block 0 grains 5;icicle 8 grains 7;block 9 grains 50;block 1 grains 60;block 7 grains 3");
        same("of whatever kind, whether it stands or not", y.blockOf(0, 5), 7);
        same("not of those beside", y.blockOf(2, 5), 0);
        same("the next number is another row's", y.blockOf(4, 5), 0);
    }

    private void strong(String kind, int grains, int strength) {
        same(kind + " of " + grains, palace(kind + " 0 grains " + grains).blockOf(0, 6), strength);
    }

    private void strengths() {
        says(0, "STRONG: BLOCK: 4 times its GRAINS.");
        strong("block", 1, 4);
        strong("block", 99, 396);
        same("as much", palace("block 0 grains 5;block 8 grains 20").weak(), 0);
        same("one more", palace("block 0 grains 5;block 8 grains 21").weak(), 1);
        says(0, "THRONE: as an ARCH, and 20.");
        strong("throne", 1, 24);
        strong("throne", 99, 416);
        same("as much", palace("throne 0 grains 5;block 8 grains 40").weak(), 0);
        same("one more", palace("throne 0 grains 5;block 8 grains 41").weak(), 1);
        says(0, "PILLAR: 3 times what a BLOCK has.");
        strong("pillar", 1, 12);
        strong("pillar", 99, 1188);
        same("as much", palace("pillar 0 grains 5;block 8 grains 60").weak(), 0);
        same("one more", palace("pillar 0 grains 5;block 8 grains 61").weak(), 1);
        says(0, "LINTEL: twice what a BEAM has.");
        strong("lintel", 1, 8);
        strong("lintel", 99, 792);
        same("as much", palace("lintel 0 grains 5;block 8 grains 40").weak(), 0);
        same("one more", palace("lintel 0 grains 5;block 8 grains 41").weak(), 1);
        says(0, "(Others as the KIND above.)");
        for (String kind : new String[] {"arch", "beam", "icicle"}) {
            strong(kind, 1, 4);
            strong(kind, 99, 396);
            same("as much", palace(kind + " 0 grains 5;block 8 grains 20").weak(), 0);
            same("one more", palace(kind + " 0 grains 5;block 8 grains 21").weak(), 1);
        }
    }

    private void candles() {
        says(0, "COLD (-20 to 20, the warmth outside; -5 at first).");
        range("cold", -20, 20, cold -> new IcePalace().cold(cold));
        same("at first", new IcePalace().cold(3), -5);
        for (int cold : new int[] {-20, 0, 20}) {
            IcePalace x = new IcePalace();
            x.cold(cold);
            same("warmth without candles", x.warmth(47), cold);
        }
        says(0, "CANDLES 0 to 5: each on a CELL (0 at first), POWER (0 to 30; 0 at first), LIT or not (at first).");
        range("a candle", 0, 5, c -> new IcePalace().lit(c, true));
        range("its cell", 0, 47, cell -> new IcePalace().candle(5, 0, cell));
        range("its power", 0, 30, power -> new IcePalace().candle(5, 1, power));
        IcePalace x = new IcePalace();
        for (int c = 0; c < 6; c++) {
            same("cell of " + c, x.candle(c, 0, 9), 0);
            same("power of " + c, x.candle(c, 1, 9), 0);
            same("lit " + c, x.lit(c, true), 0);
        }
        says(0, "WARMTH of a CELL: COLD, and for each LIT CANDLE its POWER by (FAR and 1).");
        for (int c = 0; c < 6; c++) {
            x.candle(c, 0, 47);
            x.candle(c, 1, 30);
        }
        x.cold(20);
        same("the warmest", x.warmth(47), 200);
        same("12 away", x.warmth(0), 20 + 6 * 2);
        x.lit(5, false);
        same("not of one that isn't lit", x.warmth(47), 170);
        x.candle(0, 1, 12);
        same("12 away 12 gives nothing", x.warmth(0), 20 + 4 * 2);
        x.candle(0, 1, 13);
        same("12 away 13 gives 1", x.warmth(0), 20 + 4 * 2 + 1);
        x.cold(-20);
        same("below 0", x.warmth(0), -11);
    }

    // ---- an hour

    private void grains(String when, IcePalace x, int... want) {
        for (int b = 0; b < want.length; b++) {
            same("grains of " + b + ", " + when, x.blockOf(b, 2), want[b]);
        }
    }

    private void meltingAndFrost() {
        says(0, "AN HOUR (HOUR is 0 at first; 9999 at most):");
        same("at first", new IcePalace().count(0), 0);
        IcePalace last = aged(9998);
        same("up to 9999", last.hours(1), 0);
        same("at most", last.hours(1), STATE);
        same("at most", last.count(0), 9999);
        says(0, "(a) WARMTH of CELLS of all BLOCKS, as they are then.");
        IcePalace moved = palace("block 0 grains 50;block 7 grains 50;candle 0 at 0 power 8 lit;cold 0");
        moved.hours(1);
        grains("by the candle", moved, 42, 49);
        moved.candle(0, 0, 7);
        moved.hours(1);
        grains("the candle elsewhere", moved, 41, 41);
        moved.take(1, 6);
        moved.hours(1);
        grains("the block elsewhere", moved, 40, 37);
        moved.lit(0, false);
        moved.hours(1);
        grains("the candle out", moved, 40, 37);
        says(0, "(b) By numbers each BLOCK: if its WARMTH w is above 0, it loses w GRAINS (those that it has at most):");
        melts(10, 1, 9);
        melts(10, 9, 1);
        melts(10, 10, 0);
        melts(10, 11, 0);
        melts(1, 20, 0);
        melts(10, 0, 10);
        says(0, "half of that (cut) comes to DRIP of its COLUMN, the rest to AIR;");
        drips(99, 7, 3, 4);
        drips(99, 6, 3, 3);
        drips(99, 1, 0, 1);
        // Half of what it lost, not of what it would have.
        drips(5, 9, 2, 3);
        drips(1, 9, 0, 1);
        says(0, "if w is below 0, it gets as many of AIR as half of w (cut, without sign), as AIR has, and as it has less than 99.");
        frost(20, 50, -1, 50);
        frost(20, 50, -2, 51);
        frost(20, 50, -3, 51);
        frost(20, 50, -20, 60);
        frost(10, 50, -20, 60);
        frost(9, 50, -20, 59);
        frost(1, 50, -20, 51);
        frost(20, 90, -20, 99);
        frost(20, 89, -20, 99);
        frost(20, 98, -20, 99);
        frost(20, 99, -20, 99);
        byNumbers();
    }

    /** A block in an hour of some warmth. */
    private void melts(int grains, int warmth, int left) {
        IcePalace x = palace("block 3 grains " + grains + ";cold " + warmth);
        same("how many are GONE of " + grains + " in " + warmth, x.hours(1), left == 0 ? 1 : 0);
        same("grains of " + grains + " in " + warmth, x.blockOf(0, 2), left);
        same("all that it lost is air", x.count(4), grains - left);
    }

    /** A block melts below one of WARMTH -1, which gets its DRIP and no AIR. */
    private void drips(int grains, int warmth, int drip, int air) {
        IcePalace x = palace("block 8 grains 20;pillar 0 grains " + grains + ";candle 0 at 0 power " + (2 * warmth + 2)
            + " lit;cold -" + (warmth + 2));
        x.hours(1);
        same("drip of " + grains + " in " + warmth, x.blockOf(0, 2) + x.count(5), 20 + drip);
        same("air of " + grains + " in " + warmth, x.count(4), air);
    }

    /** A block that has grains in frost, with so much AIR about. */
    private void frost(int air, int grains, int warmth, int want) {
        IcePalace x = palace("block 0 grains " + grains + ";block 7 grains " + air + ";candle 0 at 7 power 30 lit;cold -3");
        x.hours(1);
        x.lit(0, false);
        x.cold(warmth);
        x.hours(1);
        String when = " of " + grains + " in " + warmth + ", air " + air;
        same("grains" + when, x.blockOf(0, 2), want);
        same("air that is left" + when, x.count(4), air - (want - grains));
    }

    private void byNumbers() {
        IcePalace few = palace("block 0 grains 10;block 1 grains 10;block 7 grains 3;candle 0 at 7 power 30 lit;cold -4");
        few.hours(1);
        few.lit(0, false);
        few.hours(1);
        grains("the lower number gets of AIR first", few, 12, 11, 0);
        same("air", few.count(4), 0);
        IcePalace now = palace("block 0;block 7 grains 9;block 1;candle 0 at 7 power 30 lit;cold -8");
        now.hours(1);
        grains("a higher number gets of what a lower one loses", now, 20, 0, 22);
        same("air", now.count(4), 7);
    }

    private void dripAndFall() {
        says(0, "(c) DRIP of each COLUMN: it comes to the lowest BLOCK on it whose WARMTH is below 0 "
            + "(what is above 99 GRAINS, and all, if there is none, to AIR).");
        String by = ";candle 0 at 0 power 16 lit;cold -9";
        hour("the lower of two", "block 16 grains 20;block 8 grains 20;pillar 0 grains 90" + by, 4, 20, 23, 83);
        hour("the lowest, below the one that melts",
            "pillar 0 grains 50;pillar 8 grains 50;block 16 grains 60;candle 0 at 16 power 16 lit;cold -9", 4, 53, 50, 53);
        hour("not one of WARMTH 0",
            "block 16 grains 20;block 8 grains 20;pillar 0 grains 90;candle 0 at 0 power 16 lit;cold -8", 4, 24, 20, 82);
        hour("up to 99", "block 8 grains 96;pillar 0 grains 90" + by, 4, 99, 83);
        hour("above 99", "block 8 grains 98;pillar 0 grains 90" + by, 6, 99, 83);
        hour("99 already", "block 8 grains 99;pillar 0 grains 90" + by, 7, 99, 83);
        hour("what is above 99 is no other's", "block 16 grains 20;block 8 grains 98;pillar 0 grains 90" + by, 6, 20, 99, 83);
        hour("none on the column", "block 1 grains 20;pillar 0 grains 90" + by, 7, 20, 83);
        hour("of several together", "block 24 grains 9;pillar 16 grains 50;pillar 8 grains 50;pillar 0 grains 90;"
            + "candle 0 at 0 power 30 lit;cold -10", 13, 21, 50, 45, 70);
        hour("the last column", "block 15 grains 20;pillar 7 grains 90;candle 0 at 7 power 16 lit;cold -9", 4, 23, 83);
        lastCell();
        IcePalace again = palace("block 8 grains 20;pillar 0 grains 90" + by);
        again.hours(2);
        grains("no drip is left for the next hour", again, 26, 76);
        says(0, "(d) BLOCKS without GRAINS are GONE.");
        IcePalace x = palace("block 0 grains 5;block 1 grains 6;cold 5");
        same("how many", x.hours(1), 1);
        same("GONE", x.blockOf(0, 3), 1);
        same("on no cell", x.on(0), -1);
        same("one grain is enough", x.blockOf(1, 3), 0);
        same("no rubble", x.count(5), 0);
        IcePalace borne = palace("block 0 grains 5;block 8 grains 50;cold 5");
        same("ahead of the FALL", borne.hours(1), 2);
        same("rubble of the other alone", borne.count(5), 45);
        falls();
        says(0, "Then HOUR is one more.");
        same("behind one", x.count(0), 1);
        same("behind one with a FALL", borne.count(0), 1);
        x.hours(48);
        same("behind 48 more", x.count(0), 49);
        x.fall();
        same("a FALL is no hour", x.count(0), 49);
        says(0, "AIR, RUBBLE are 0 at first.");
        same("air", new IcePalace().count(4), 0);
        same("rubble", new IcePalace().count(5), 0);
    }

    /** DRIP from the lowest cell of the last column to the highest, which a column beside bears. */
    private void lastCell() {
        IcePalace x = palace("lintel 47 grains 20;candle 0 at 7 power 20 lit;cold -10");
        for (int cell = 6; cell < 48; cell += 8) {
            x.block(PILLAR, cell, 90);
        }
        x.block(PILLAR, 7, 90);
        x.hours(1);
        grains("the last cell", x, 25, 90, 90, 90, 90, 90, 90, 80);
        same("air, the last cell", x.count(4), 5);
    }

    /** GRAINS and AIR behind one hour of a palace. */
    private void hour(String what, String text, int air, int... want) {
        IcePalace x = palace(text);
        x.hours(1);
        grains(what, x, want);
        same("air, " + what, x.count(4), air);
    }

    private void falls() {
        says(0, "(e) A FALL: all BLOCKS that don't STAND, or whose LOAD is above STRONG, are GONE at once, "
            + "their GRAINS are RUBBLE; again, till there are none.");
        fall("one that doesn't stand", "block 8 grains 7;block 1 grains 3", 1, 7);
        fall("as much load as it is strong", "block 0 grains 1;block 8 grains 4", 0, 0);
        fall("more, and what stood on it again", "block 0 grains 1;block 8 grains 5", 2, 6);
        fall("at once: what was too heavy is loose itself", "block 0 grains 1;icicle 8 grains 5", 2, 6);
        fall("what hangs and what is beside, again",
            "block 0 grains 1;block 8 grains 5;block 16 grains 3;beam 17 grains 2;icicle 9 grains 4;block 5", 5, 15);
        fall("what stands by others stays",
            "block 0 grains 1;block 8 grains 5;beam 9 grains 4;block 1 grains 1;arch 2 grains 9", 2, 6);
        fall("nothing", "block 0;block 8", 0, 0);
        same("sixteen that stand", chain().fall(), 0);
        IcePalace cut = chain();
        cut.turn(10, ICICLE);
        same("eleven by one", cut.fall(), 11);
        same("their grains", cut.count(5), 99);
        IcePalace all = palace("block 0 grains 1;block 8 grains 5;block 3 grains 9");
        same("in an hour too", all.hours(1), 2);
        all.block(BLOCK, 20, 10);
        all.fall();
        same("rubble of all falls", all.count(5), 16);
    }

    private void fall(String what, String text, int gone, int rubble) {
        IcePalace x = palace(text);
        same(what, x.fall(), gone);
        same("rubble: " + what, x.count(5), rubble);
        same("GONE: " + what, x.count(2), gone);
        same("none again: " + what, x.fall(), 0);
        same("no air: " + what, x.count(4), 0);
    }

    private void ahead() {
        says(0, "AHEAD: n HOURS go on with all as it is; nothing changes.");
        changesNothing("ahead(96, 0)", x -> x.ahead(96, 0));
        changesNothing("ahead(0, 4)", x -> x.ahead(0, 4));
        changesNothing("goes(0)", x -> x.goes(0));
        changesNothing("holds()", x -> x.holds());
        changesNothing("deal(48)", x -> x.deal(48));
        changesNothing("bears(48)", x -> x.bears(48));
        changesNothing("needs(0, 48)", x -> x.needs(0, 48));
        changesNothing("mend(98)", x -> x.mend(98));
        changesNothing("whose(0)", x -> x.whose(0));
        changesNothing("drawing(0, 24, 0)", x -> x.drawing(0, 24, 0));
        changesNothing("tune()", x -> x.tune());
        changesNothing("order(0)", x -> x.order(0));
        changesNothing("steps(8)", x -> x.steps(8));
        changesNothing("shakes(2)", x -> x.shakes(2));
        changesNothing("judge(0)", x -> x.judge(0));
        IcePalace there = rich();
        IcePalace then = rich();
        then.hours(40);
        int[] counts = {2, 3, 4, 5};
        int[] whats = {0, 1, 2, 3};
        for (int i = 0; i < 4; i++) {
            int already = i == 0 ? there.count(2) : 0;
            same("ahead(40, " + whats[i] + ") as it comes", there.ahead(40, whats[i]), then.count(counts[i]) - already);
        }
        says(0, "HOLDS n HOURS: no BLOCK is GONE by them that isn't now.");
        IcePalace x = palace("block 47 grains 5;block 0 grains 10;cold 5");
        same("one falls at once", x.holds(), 0);
        x.fall();
        same("one that is GONE now doesn't count", x.holds(), 1);
        same("one hour", x.deal(1), 0);
        same("two hours", x.deal(2), NONE);
        same("nobody to be GONE", new IcePalace().holds(), 96);
        says(0, "LIGHT: POWER of all LIT CANDLES together.");
        IcePalace lights = palace("candle 0 at 0 power 30 lit;candle 5 at 47 power 7 lit;candle 3 at 3 power 9");
        same("of two", lights.light(), 37);
        lights.lit(3, true);
        same("of three", lights.light(), 46);
        says(0, "DRAWS: z is told (1 at first); each makes it z * 1103515245 + 12345 (an int), and gives z >>> 8.");
        same("at first", new IcePalace().count(7), 1);
        for (int z : new int[] {1, 2, 0, -1, MIN, MAX, 12345, -987654321}) {
            draw(z);
        }
    }

    private void changesNothing(String call, ToIntFunction<IcePalace> act) {
        IcePalace x = rich();
        act.applyAsInt(x);
        unchanged(call, x, rich());
    }

    /** The candle that is turned by a draw from z, counted without an int's wrap-around. */
    private void draw(int z) {
        IcePalace x = new IcePalace();
        x.seed(z);
        x.wind(1);
        long next = (z * 1103515245L + 12345L) & 0xffffffffL;
        same("z behind " + z, x.count(7), (int) next);
        for (int c = 0; c < 6; c++) {
            same("candle " + c + " by a draw from " + z, x.lit(c, false), c == next / 256 % 6 ? 1 : 0);
        }
    }

    // ---- a text

    private void items(String text, int items) {
        same("text '" + text + "'", tell(new IcePalace(), text), items);
    }

    /** A text's FAULT, on a palace with a block on cell 9. */
    private void fault(String text, int place) {
        same("FAULT of '" + text + "'", tell(palace("block 9"), text), -1 - place);
    }

    private void tokens() {
        says(0, "A TEXT is read from THE TAPE (bytes, at most 120).");
        IcePalace x = new IcePalace();
        String last = " ".repeat(112) + "cold 007";
        feed(x, last);
        same("120 bytes", x.count(6), 120);
        same("one more", x.feed('1', 1), FULL);
        same("text() of 120", x.text(), 1);
        same("the last byte is read", x.cold(0), 7);
        says(0, "TOKENS, each as long as can be:");
        same("12 is one", palace("block 12").on(12), 0);
        fault("coldcold 3", 0);
        fault("candle 0 at 1 power 3 litcold", 22);
        fault("blockarch 3", 0);
        fault("candle 0 at 4 7", 14);
        says(0, "WORDS (letters a to z),");
        fault("zzz", 0);
        fault("aaa", 0);
        fault("coldz 3", 0);
        fault("colda 3", 0);
        fault("acold 3", 0);
        fault("zcold 3", 0);
        fault("Cold 3", 0);
        fault("coLd 3", 0);
        for (int sign : new int[] {'`', '{', 'A', 'Z', 'a' + 128}) {
            fault("cold 3;" + (char) sign + "old 4", 7);
            fault("cold 3;col" + (char) sign + " 4", 7);
            fault("cold 3 " + (char) sign, 7);
        }
        says(0, "NUMBERS (digits, 999 at most),");
        items("cold0020", 1);
        items("block 000000000000000047 grains 0099", 1);
        fault("cold 999", 5);
        fault("cold 1000", 5);
        fault("cold 4294967296", 5);
        fault("cold 2147483648", 5);
        fault("cold 18446744073709551616", 5);
        for (int sign : new int[] {'/', ':', '0' + 128, '.', '+'}) {
            fault("cold " + (char) sign, 5);
            fault("cold 1" + (char) sign, 6);
        }
        says(0, "SIGNS ; and -;");
        items("cold 3;cold-3", 2);
        fault("cold 3,cold 4", 6);
        fault("cold 3:cold 4", 6);
        fault("cold _3", 5);
        says(0, "blanks may stand between.");
        items(" cold - 3 ; candle 1 at 2 power 3 lit ", 2);
        items("cold-3;candle1at2power3lit;block3grains4", 3);
        items("   cold   -   3   ;   cold   4   ", 2);
        for (int sign : new int[] {0, 9, 10, 11, 12, 13, 31, 33, 127, 160, 255}) {
            fault("cold" + (char) sign + "3", 4);
            fault((char) sign + "cold 3", 0);
            fault("cold 3" + (char) sign, 6);
        }
        fault("co ld 3", 0);
        fault("cold 3 4", 7);
    }

    private void items() {
        says(0, "TEXT: ITEM { ; ITEM }.");
        items("cold 3", 1);
        items("cold 3;cold 4", 2);
        items("cold 3;cold 4;cold 5;cold 6;cold 7;cold 8;cold 9;cold 1;cold 2;cold 3;cold 4;cold 5;cold 6;cold 7;cold 8;cold 9;cold 1", 17);
        fault("", 0);
        fault(" ", 1);
        fault(";", 0);
        fault("cold 3;", 7);
        fault("cold 3;;cold 4", 7);
        fault(";cold 3", 0);
        fault("cold 3 cold 4", 7);
        says(0, "ITEM: block, arch, beam, pillar, icicle, throne or lintel, a NUMBER (0 to 47: a CELL on which none is), "
            + "perhaps grains and a NUMBER (1 to 99; 20 without it): a new BLOCK;");
        for (int kind = 0; kind < 7; kind++) {
            String word = KINDS[kind];
            for (int cell : new int[] {0, 47}) {
                IcePalace x = palace(word + " " + cell);
                same("kind of '" + word + "'", x.blockOf(0, 0), kind);
                same("its cell", x.on(cell), 0);
                same("its grains", x.blockOf(0, 2), 20);
            }
            int at = word.length() + 1;
            fault(word + " 48", at);
            fault(word + " 9", at);
            fault(word + " -1", at);
            fault(word + "s 1", 0);
            fault(word.substring(1) + " 1", 0);
            fault(word.substring(0, at - 2) + " 1", 0);
        }
        fault("block 1;arch 1", 13);
        items("block 1 grains 1;block 2 grains 99", 2);
        same("grains 1", palace("block 1 grains 1").blockOf(0, 2), 1);
        same("grains 99", palace("block 1 grains 99").blockOf(0, 2), 99);
        fault("block 1 grains 0", 15);
        fault("block 1 grains 100", 15);
        fault("block 1 grains -1", 15);
        fault("block 1 grain 3", 8);
        fault("block 1 grains 3 grains 3", 17);
        fault("block grains 3", 6);
        IcePalace gone = palace("block 47 grains 1");
        gone.fall();
        same("the cell of a GONE one", tell(gone, "arch 47"), 1);
        same("its number", gone.on(47), 1);
        candleItems();
        coldItems();
    }

    private void candleItems() {
        says(0, "candle, a NUMBER (0 to 5), at, a NUMBER (0 to 47), perhaps power and a NUMBER (0 to 30), "
            + "perhaps lit (without it it isn't LIT);");
        items("candle 0 at 0", 1);
        items("candle 5 at 47 power 30 lit;candle 0 at 0 power 0 lit", 2);
        fault("candle 6 at 0", 7);
        fault("candle -1 at 0", 7);
        fault("candle 0 at 48", 12);
        fault("candle 0 at -1", 12);
        fault("candle 0 at 0 power 31", 20);
        fault("candle 0 at 0 power -1", 20);
        fault("candle 0 at 0 power lit", 20);
        fault("candle 0 3", 9);
        fault("candle 0 as 3", 9);
        fault("candle at 3", 7);
        fault("candle 0 at lit", 12);
        fault("candle 0 at 0 lit power 3", 18);
        fault("candle 0 at 0 power 3 power 3", 22);
        fault("candle 0 at 0 lit lit", 18);
        fault("candle 0 at 0 unlit", 14);
        IcePalace x = palace("candle 5 at 47 power 30 lit");
        same("its power, lit", x.light(), 30);
        same("its cell", x.candle(5, 0, 3), 47);
        same("without lit", tell(x, "candle 5 at 9 power 0"), 1);
        same("it isn't lit", x.lit(5, true), 0);
        same("power 0", x.candle(5, 1, 8), 0);
        same("on an occupied cell too", tell(x, "block 4;candle 5 at 4 lit"), 2);
        same("lit, with the power that it had", x.light(), 8);
        same("on its cell", x.candle(5, 0, 0), 4);
    }

    private void coldItems() {
        says(0, "cold, perhaps -, a NUMBER (0 to 20).");
        for (int cold : new int[] {-20, -1, 0, 1, 20}) {
            same("cold " + cold, palace("cold " + cold).cold(9), cold);
        }
        same("cold -0", palace("cold -0").cold(9), 0);
        fault("cold 21", 5);
        fault("cold -21", 6);
        fault("cold --1", 6);
        fault("cold ;", 5);
        fault("cold 3 -", 7);
        fault("cold 3-", 6);
        fault("cold at", 5);
    }

    private void faults() {
        says(0, "FAULT: the place (from 0) of the first byte of the first TOKEN that can't stand there");
        fault("3", 0);
        fault("  lit", 2);
        fault("cold 3;  3", 9);
        fault("block 8  grains  100;cold 99;x", 17);
        says(0, "(a NUMBER that isn't as told,");
        fault("block   48", 8);
        fault("arch 3 grains   0", 16);
        fault("candle  6 at 3", 8);
        says(0, "another WORD,");
        fault("candle 3  on 3", 10);
        fault("cold 3  warm", 8);
        fault("grains 3", 0);
        says(0, "a byte that begins no TOKEN,");
        fault("cold  !3", 6);
        fault("cold 3!", 6);
        fault("cold" + (char) 0, 4);
        says(0, "the WORD of a 17th BLOCK: its own),");
        IcePalace x = new IcePalace();
        for (int b = 0; b < 15; b++) {
            x.block(BLOCK, 32 + b, 5);
        }
        same("a 16th and a 17th", tell(x, "arch 0;  beam 1"), -1 - 9);
        same("a 16th", tell(x, "arch 0"), 1);
        same("a 17th", tell(x, "beam 1"), -1);
        same("a 17th without more", tell(x, "cold 3;beam"), -1 - 7);
        same("a 17th on no cell", tell(x, "cold 3;beam 48"), -1 - 7);
        x.fall();
        same("GONE ones count", tell(x, " beam 1"), -1 - 1);
        same("other items", tell(x, "cold 3;candle 0 at 0"), 2);
        says(0, "or how many bytes there are if it ends too early.");
        for (String text : new String[] {"", "   ", "block", "block ", "block 3 grains", "candle", "candle 3", "candle 3 at",
            "candle 3 at 3 power", "candle 3 at 3 power  ", "cold", "cold -", "cold - ", "cold 3;", "cold 3; "}) {
            fault(text, text.length());
        }
    }

    private void spotsAndSheets() {
        says(0, "SPOTS 0 to 9 hold a BLOCK or nothing (at first).");
        range("a spot", 0, 9, spot -> palace("block 0").hold(spot, 0));
        for (int spot = 0; spot < 10; spot++) {
            IcePalace x = palace("block 0;block 1");
            same("at first spot " + spot, x.as(spot, 0), MISSING);
            x.hold(spot, 1);
            for (int other = 0; other < 10; other++) {
                same("spot " + other + " beside " + spot, x.as(other, 0), other == spot ? 1 : MISSING);
            }
        }
        says(0, "SHEETS 0 to 3: rows of at most 40 numbers of 8, 16 or 32 bits (told with their sign: of 8 bits 255 is -1), "
            + "or MISSING (at first).");
        range("a sheet", 0, 3, s -> new IcePalace().sheet(s, 8, 1));
        for (int s = 0; s < 4; s++) {
            same("at first sheet " + s, new IcePalace().load(s), MISSING);
            for (int bits : new int[] {8, 16, 32}) {
                IcePalace x = new IcePalace();
                same("40 numbers", x.sheet(s, bits, 40), 40);
                same("the last of them", x.write(s, 39, 1), 1);
                same("no more", x.write(s, 40, 1), BEYOND);
                same("41 numbers", x.sheet(s, bits, 41), BEYOND);
            }
        }
        int[][] told = {{8, 255, -1}, {8, 128, -128}, {8, 127, 127}, {8, 256, 0}, {8, 257, 1}, {8, -255, 1}, {16, 255, 255},
            {16, 257, 257}, {16, 65535, -1}, {16, 65536, 0}, {16, 65537, 1}, {16, -65535, 1}, {32, 257, 257},
            {32, 65537, 65537}, {32, -1, -1}, {32, MIN + 1, MIN + 1}, {32, 7, 7}, {32, 16, 16}};
        for (int[] number : told) {
            number(number[0], number[1], number[2]);
        }
    }

    /** What a number is shows where it is loaded as GRAINS and judged as a BLOCK. */
    private void number(int bits, int written, int told) {
        IcePalace x = new IcePalace();
        for (int b = 0; b < 16; b++) {
            x.block(BLOCK, b, 9);
        }
        write(x, 0, bits, written);
        same(written + " in " + bits + " bits as a block", x.judge(0), told >= 0 && told < 8 ? 41 : 1);
        boolean grains = told >= 1 && told <= 99;
        same(written + " in " + bits + " bits as grains", x.load(0), grains ? 1 : 0);
        same("grains then", x.blockOf(0, 2), grains ? told : 9);
    }
}
