/** The sentences of promises 1 to 16: a new object, blocks, candles, hours. */
public final class BlocksEdgeTest extends Edges {
    private BlocksEdgeTest() {
        super("BlocksEdgeTest", 1, 16);
    }

    public static void main(String[] args) {
        BlocksEdgeTest test = new BlocksEdgeTest();
        test.newObject();
        test.block();
        test.blockOf();
        test.turn();
        test.take();
        test.on();
        test.water();
        test.candle();
        test.litAndCold();
        test.warmthAndLight();
        test.hours();
        test.fall();
        test.loose();
        test.weak();
        test.end();
    }

    /** One block GONE (0), one on cell 0 (1). */
    private static IcePalace oneGone() {
        IcePalace x = palace("block 47 grains 9;block 0 grains 9");
        x.fall();
        return x;
    }

    private void newObject() {
        says(1, "All as at first;");
        IcePalace x = new IcePalace();
        int[] counts = {0, 0, 0, 0, 0, 0, 0, 1};
        for (int what = 0; what < 8; what++) {
            same("count(" + what + ")", x.count(what), counts[what]);
        }
        for (int c = 0; c < 6; c++) {
            same("cell of candle " + c, x.candle(c, 0, 0), 0);
            same("power of candle " + c, x.candle(c, 1, 0), 0);
            same("candle " + c + " lit", x.lit(c, false), 0);
        }
        same("cold", x.cold(-5), -5);
        for (int which = -1; which < 7; which++) {
            same("status(" + which + ")", x.status(which), 0);
        }
        for (int spot = 0; spot < 10; spot++) {
            same("spot " + spot, x.as(spot, 0), MISSING);
        }
        for (int s = 0; s < 4; s++) {
            same("sheet " + s, x.judge(s), MISSING);
        }
        says(1, "no BLOCKS;");
        same("block 0", x.blockOf(0, 0), BEYOND);
        for (int cell = 0; cell < 48; cell++) {
            same("on(" + cell + ")", x.on(cell), -1);
        }
        same("loose", x.loose(), 0);
        same("weak", x.weak(), 0);
        says(1, "THE TAPE is empty,");
        same("bytes", x.count(6), 0);
        same("wipe()", x.wipe(), 0);
        same("text()", x.text(), -1);
        says(1, "no image is kept.");
        same("undo()", x.undo(), NONE);
        same("tear()", x.tear(), 0);
        IcePalace other = palace("block 0;candle 0 at 3 power 4 lit;cold 9");
        other.image();
        same("of another object's nothing is here", x.undo() == NONE && x.on(0) == -1 ? x.warmth(0) : 0, -5);
    }

    private void block() {
        says(2, "A new BLOCK (whether it STANDS or not): its number.");
        IcePalace x = new IcePalace();
        same("one that stands", x.block(THRONE, 0, 1), 0);
        same("one that doesn't", x.block(ICICLE, 47, 99), 1);
        same("it is there", x.on(47), 1);
        same("it isn't GONE till a FALL", x.blockOf(1, 3), 0);
        int[] told = {ICICLE, 47, 99};
        for (int what = 0; what < 3; what++) {
            same("blockOf(1, " + what + ")", x.blockOf(1, what), told[what]);
        }
        x.fall();
        same("behind a GONE one", x.block(BEAM, 47, 5), 2);
        says(2, "BEYOND.");
        range("kind", 0, 6, kind -> new IcePalace().block(kind, 0, 1));
        range("cell", 0, 47, cell -> new IcePalace().block(BLOCK, cell, 1));
        range("grains", 1, 99, grains -> new IcePalace().block(BLOCK, 0, grains));
        says(2, "FULL.");
        for (int b = 3; b < 16; b++) {
            same("block number " + b, x.block(BLOCK, b, 9), b);
        }
        same("a 17th, though one is GONE", x.block(BLOCK, 20, 9), FULL);
        same("not even on a taken cell", x.block(BLOCK, 0, 9), FULL);
        says(2, "STATE: one is on that CELL.");
        for (int cell : new int[] {0, 7, 8, 40, 47}) {
            IcePalace y = new IcePalace();
            y.block(BLOCK, cell, 5);
            same("on " + cell, y.block(ARCH, cell, 6), STATE);
            same("the one there is as it was", y.blockOf(0, 2), 5);
        }
    }

    private void blockOf() {
        says(3, "Of a BLOCK: what 0 KIND, 1 CELL (-1 of GONE ones), 2 GRAINS, 3 1 if it is GONE, else 0, "
            + "4 1 if it STANDS, else 0, 5 LOAD, 6 STRONG (4 to 6: 0 of GONE ones).");
        IcePalace x = palace("throne 0 grains 9;lintel 8 grains 99;icicle 47 grains 1;pillar 46 grains 30");
        int[][] told = {{THRONE, 0, 9, 0, 1, 99, 56}, {LINTEL, 8, 99, 0, 1, 0, 792}, {ICICLE, 47, 1, 0, 0, 0, 4},
            {PILLAR, 46, 30, 0, 0, 0, 360}};
        int[][] then = {{THRONE, -1, 0, 1, 0, 0, 0}, {LINTEL, -1, 0, 1, 0, 0, 0}, {ICICLE, -1, 0, 1, 0, 0, 0},
            {PILLAR, -1, 0, 1, 0, 0, 0}};
        look("at first", x, told);
        x.fall();
        look("GONE", x, then);
        says(3, "BEYOND.");
        range("a block of two", 0, 1, b -> palace("block 0;block 1").blockOf(b, 0));
        range("a block of sixteen", 0, 15, b -> chain().blockOf(b, 0));
        range("what", 0, 6, what -> palace("block 0").blockOf(0, what));
        same("a block of none", new IcePalace().blockOf(0, 0), BEYOND);
        same("a block of none", new IcePalace().blockOf(-1, 0), BEYOND);
        holds("a GONE block is a block", oneGone().blockOf(0, 1) == -1);
    }

    private void look(String when, IcePalace x, int[][] told) {
        for (int b = 0; b < told.length; b++) {
            for (int what = 0; what < 7; what++) {
                same("blockOf(" + b + ", " + what + ") " + when, x.blockOf(b, what), told[b][what]);
            }
        }
    }

    private void turn() {
        says(4, "A BLOCK becomes one of another KIND: what it was.");
        IcePalace x = palace("block 9;block 0");
        for (int kind = 1; kind < 7; kind++) {
            same("turn(0, " + kind + ")", x.turn(0, kind), kind - 1);
            same("kind then", x.blockOf(0, 0), kind);
        }
        same("to its own", x.turn(0, ICICLE), ICICLE);
        same("the other is as it was", x.blockOf(1, 0), BLOCK);
        x.fall();
        same("a GONE one", x.turn(0, LINTEL), ICICLE);
        same("its kind then", x.blockOf(0, 0), LINTEL);
        same("it is GONE still", x.blockOf(0, 3), 1);
        same("its STRONG", x.blockOf(0, 6), 0);
        says(4, "BEYOND.");
        range("a block", 0, 1, b -> palace("block 0;block 1").turn(b, 1));
        range("a kind", 0, 6, kind -> palace("block 0").turn(0, kind));
        same("a block of none", new IcePalace().turn(0, 0), BEYOND);
    }

    private void take() {
        says(5, "A BLOCK that isn't GONE is taken to a CELL: where it was.");
        IcePalace x = palace("block 0 grains 7;block 5");
        same("take(0, 47)", x.take(0, 47), 0);
        same("it is there", x.on(47), 0);
        same("not where it was", x.on(0), -1);
        same("its cell", x.blockOf(0, 1), 47);
        same("its grains", x.blockOf(0, 2), 7);
        same("to where it is", x.take(0, 47), 47);
        same("it is there still", x.on(47), 0);
        same("back", x.take(0, 0), 47);
        same("not where it was", x.on(47), -1);
        says(5, "BEYOND.");
        range("a block", 0, 1, b -> palace("block 0;block 1").take(b, 9));
        range("a cell", 0, 47, cell -> palace("block 20").take(0, cell));
        same("a block of none", new IcePalace().take(0, 0), BEYOND);
        says(5, "STATE: it is GONE, or another one is there.");
        same("it is GONE", oneGone().take(0, 20), STATE);
        same("it is GONE, to where it was", oneGone().take(0, 47), STATE);
        same("it is GONE, and another one is there", oneGone().take(0, 0), STATE);
        same("another one is there", x.take(0, 5), STATE);
        same("block 0 is there", x.take(1, 0), STATE);
        same("all is as it was", x.on(0) == 0 ? x.on(5) : -1, 1);
        same("to a GONE one's cell", oneGone().take(1, 47), 0);
    }

    private void on() {
        says(6, "Which BLOCK is on a CELL (-1: none).");
        IcePalace x = oneGone();
        same("on(0)", x.on(0), 1);
        same("on(47), it is GONE", x.on(47), -1);
        same("on(1)", x.on(1), -1);
        IcePalace y = chain();
        same("the first", y.on(42), 0);
        same("the last", y.on(0), 15);
        says(6, "BEYOND.");
        range("a cell", 0, 47, cell -> new IcePalace().on(cell));
    }

    private void water() {
        says(7, "Water is thrown: a BLOCK that isn't GONE gets n GRAINS (1 to 99; 99 in all at most): how many it got.");
        for (int[] c : new int[][] {{1, 99, 98}, {1, 98, 98}, {1, 97, 97}, {1, 1, 1}, {98, 1, 1}, {98, 2, 1}, {98, 99, 1},
            {99, 1, 0}, {99, 99, 0}, {50, 49, 49}, {50, 50, 49}}) {
            IcePalace x = palace("block 0 grains " + c[0]);
            same("water(0, " + c[1] + ") to " + c[0], x.water(0, c[1]), c[2]);
            same("grains then", x.blockOf(0, 2), c[0] + c[2]);
            same("not of AIR", x.count(4), 0);
        }
        IcePalace loose = palace("block 40 grains 5");
        same("whether it stands or not", loose.water(0, 5), 5);
        says(7, "BEYOND.");
        range("a block", 0, 1, b -> palace("block 0;block 1").water(b, 1));
        range("n", 1, 99, n -> palace("block 0 grains 1").water(0, n));
        same("a block of none", new IcePalace().water(0, 1), BEYOND);
        says(7, "STATE: it is GONE, or WARMTH of its CELL isn't below 0.");
        same("it is GONE", oneGone().water(0, 5), STATE);
        for (int cold : new int[] {-20, -1, 0, 1, 20}) {
            IcePalace x = palace("block 9 grains 5;cold " + cold);
            same("in WARMTH " + cold, x.water(0, 5), cold < 0 ? 5 : STATE);
            same("grains then", x.blockOf(0, 2), cold < 0 ? 10 : 5);
        }
        IcePalace near = palace("block 9 grains 5;block 10 grains 5;candle 0 at 9 power 5 lit");
        same("WARMTH 0 by a candle", near.water(0, 1), STATE);
        same("WARMTH of its own cell", near.water(1, 1), 1);
        near.lit(0, false);
        same("the candle is out", near.water(0, 1), 1);
        IcePalace full = palace("block 9 grains 99;cold 0");
        same("though it has no room", full.water(0, 1), STATE);
    }

    private void candle() {
        says(8, "CELL (what 0), POWER (1) of a CANDLE becomes v: what it was.");
        IcePalace x = new IcePalace();
        same("cell of the last", x.candle(5, 0, 47), 0);
        same("cell", x.candle(5, 0, 0), 47);
        same("power of the last", x.candle(5, 1, 30), 0);
        same("power", x.candle(5, 1, 0), 30);
        same("cell of the first", x.candle(0, 0, 9), 0);
        same("power of the first", x.candle(0, 1, 9), 0);
        same("one's is not another's", x.candle(5, 0, 0) + x.candle(5, 1, 0), 0);
        same("cell and power are two", x.candle(0, 1, 10), 9);
        same("cell and power are two", x.candle(0, 0, 9), 9);
        same("it is not lit by that", x.lit(0, false), 0);
        same("two on a cell, and with a block", palace("block 3;candle 1 at 3;candle 2 at 3").candle(0, 0, 3), 0);
        says(8, "BEYOND.");
        range("a candle", 0, 5, c -> new IcePalace().candle(c, 0, 1));
        range("a candle", 0, 5, c -> new IcePalace().candle(c, 1, 1));
        range("what", 0, 1, what -> new IcePalace().candle(0, what, 1));
        range("a cell", 0, 47, cell -> new IcePalace().candle(0, 0, cell));
        range("a power", 0, 30, power -> new IcePalace().candle(0, 1, power));
    }

    private void litAndCold() {
        says(9, "A CANDLE is LIT, or not: 1 if it was, else 0.");
        for (int c = 0; c < 6; c++) {
            IcePalace x = new IcePalace();
            same("lit(" + c + ", false)", x.lit(c, false), 0);
            same("lit(" + c + ", true)", x.lit(c, true), 0);
            same("lit(" + c + ", true) again", x.lit(c, true), 1);
            for (int other = 0; other < 6; other++) {
                if (other != c) {
                    same("not " + other, x.lit(other, false), 0);
                }
            }
            same("lit(" + c + ", false)", x.lit(c, false), 1);
            same("lit(" + c + ", false) again", x.lit(c, false), 0);
        }
        says(9, "BEYOND.");
        range("a candle, lit", 0, 5, c -> new IcePalace().lit(c, true));
        range("a candle, out", 0, 5, c -> new IcePalace().lit(c, false));
        says(10, "COLD becomes v: what it was.");
        IcePalace x = new IcePalace();
        same("cold(-20)", x.cold(-20), -5);
        same("cold(20)", x.cold(20), -20);
        same("cold(0)", x.cold(0), 20);
        same("cold(0) again", x.cold(0), 0);
        says(10, "BEYOND.");
        range("v", -20, 20, v -> new IcePalace().cold(v));
        same("it is as it was", x.cold(-21) == BEYOND ? x.cold(1) : 9, 0);
    }

    private void warmthAndLight() {
        says(11, "WARMTH of a CELL.");
        IcePalace x = palace("candle 1 at 0 power 30 lit;candle 2 at 47 power 30 lit;candle 3 at 9 power 30");
        same("warmth(0)", x.warmth(0), -5 + 30 + 2);
        same("warmth(47)", x.warmth(47), -5 + 2 + 30);
        same("warmth(7)", x.warmth(7), -5 + 30 / 8 + 30 / 6);
        same("warmth(8)", x.warmth(8), -5 + 30 / 2 + 30 / 12);
        x.cold(-20);
        same("warmth(8)", x.warmth(8), -20 + 15 + 2);
        says(11, "BEYOND.");
        range("a cell", 0, 47, cell -> new IcePalace().warmth(cell));
        says(12, "LIGHT.");
        same("of none", new IcePalace().light(), 0);
        same("of two lit ones", x.light(), 60);
        for (int c = 0; c < 6; c++) {
            x.candle(c, 1, 30);
            x.lit(c, true);
        }
        same("the most", x.light(), 180);
        x.candle(5, 1, 0);
        same("a lit one without power", x.light(), 150);
    }

    private void hours() {
        says(13, "n HOURS go (1 to 48): how many BLOCKS are GONE by them.");
        IcePalace x = palace("block 0 grains 48;block 1 grains 47;block 47 grains 9;block 2 grains 49;cold 1");
        x.fall();
        same("47 hours", x.hours(47), 1);
        same("HOUR", x.count(0), 47);
        same("one more", x.hours(1), 1);
        same("HOUR", x.count(0), 48);
        same("those that are GONE already don't count", x.hours(48), 1);
        same("HOUR", x.count(0), 96);
        same("GONE in all", x.count(2), 4);
        same("sixteen at once", sixteen().hours(1), 16);
        says(13, "BEYOND.");
        range("n", 1, 48, n -> new IcePalace().hours(n));
        says(13, "STATE: HOUR would be above 9999.");
        IcePalace y = aged(9951);
        same("49 are beyond still", y.hours(49), BEYOND);
        same("up to 9999", y.hours(48), 0);
        same("HOUR", y.count(0), 9999);
        same("above it", y.hours(1), STATE);
        same("above it", y.hours(48), STATE);
        same("HOUR", y.count(0), 9999);
        IcePalace z = aged(9952);
        same("above it by one", z.hours(48), STATE);
        same("none of them goes", z.count(0), 9952);
        same("up to it", z.hours(47), 0);
    }

    /** Sixteen blocks that don't stand. */
    private static IcePalace sixteen() {
        IcePalace x = new IcePalace();
        for (int b = 0; b < 16; b++) {
            x.block(BLOCK, 32 + b, 9);
        }
        return x;
    }

    private void fall() {
        says(14, "A FALL (e) now: how many BLOCKS are GONE by it.");
        same("of none", new IcePalace().fall(), 0);
        IcePalace x = sixteen();
        same("of sixteen", x.fall(), 16);
        same("rubble", x.count(5), 144);
        same("again", x.fall(), 0);
        IcePalace y = palace("block 0 grains 2;block 8 grains 9;block 3;block 30 grains 5;cold 9");
        same("one too weak, one on it, one loose", y.fall(), 3);
        same("no hour", y.count(0), 0);
        same("nothing melts", y.blockOf(2, 2), 20);
        same("no air", y.count(4), 0);
        same("rubble", y.count(5), 16);
        IcePalace end = aged(9999);
        end.block(BLOCK, 47, 5);
        same("at the last hour too", end.fall(), 1);
    }

    private void loose() {
        says(15, "BLOCKS that aren't GONE and don't STAND, as a set.");
        IcePalace x = sixteen();
        same("all sixteen", x.loose(), 65535);
        x.take(0, 0);
        same("all but the first", x.loose(), 65534);
        x.take(15, 1);
        same("all but the first and the last", x.loose(), 32766);
        x.fall();
        same("GONE ones are not", x.loose(), 0);
        same("none", new IcePalace().loose(), 0);
        same("weak ones are not", palace("block 0 grains 1;block 8 grains 9").loose(), 0);
    }

    private void weak() {
        says(16, "BLOCKS whose LOAD is above STRONG, as a set.");
        IcePalace x = new IcePalace();
        for (int b = 0; b < 16; b++) {
            x.block(BLOCK, b < 8 ? b : b + 8, b < 8 ? 2 : 9);
        }
        same("a gap bears no load", x.weak(), 0);
        for (int b = 8; b < 16; b++) {
            x.take(b, b);
        }
        same("eight of sixteen", x.weak(), 255);
        for (int b = 0; b < 8; b++) {
            x.take(b, b + 40);
            x.take(b + 8, b);
            x.take(b, b + 8);
        }
        same("the other way around none", x.weak(), 0);
        same("equal is not above", palace("block 0 grains 2;block 8 grains 8").weak(), 0);
        same("one above", palace("block 0 grains 2;block 8 grains 9").weak(), 1);
        IcePalace up = palace("block 24 grains 1;block 32 grains 2;block 40 grains 9");
        same("whether they stand or not", up.weak(), 3);
        up.fall();
        same("GONE ones are not", up.weak(), 0);
        IcePalace last = chain();
        last.turn(15, BLOCK);
        last.take(14, 8);
        IcePalace sixteenth = new IcePalace();
        for (int b = 0; b < 14; b++) {
            sixteenth.block(BLOCK, b % 7 + b / 7 * 8, 9);
        }
        sixteenth.block(BLOCK, 15, 5);
        sixteenth.block(BLOCK, 7, 1);
        same("the last of sixteen", sixteenth.weak(), 32768);
    }
}
