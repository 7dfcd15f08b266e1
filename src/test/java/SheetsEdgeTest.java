/** The sentences of promises 36 to 47: spots, sheets, images. */
public final class SheetsEdgeTest extends Edges {
    private SheetsEdgeTest() {
        super("SheetsEdgeTest", 36, 47);
    }

    public static void main(String[] args) {
        SheetsEdgeTest test = new SheetsEdgeTest();
        test.hold();
        test.as();
        test.sheet();
        test.write();
        test.copy();
        test.copyRanges();
        test.load();
        test.judge();
        test.image();
        test.undo();
        test.tear();
        test.count();
        test.status();
        test.end();
    }

    /** Block 0 is GONE, blocks 1 and 2 are on cells 0 and 1. */
    private static IcePalace oneGone() {
        IcePalace x = palace("block 47 grains 9;arch 0 grains 9;throne 1 grains 9");
        x.fall();
        return x;
    }

    /** Sixteen blocks on two rows, all of 9 GRAINS. */
    private static IcePalace sixteen() {
        IcePalace x = new IcePalace();
        for (int b = 0; b < 16; b++) {
            x.block(BLOCK, b, 9);
        }
        return x;
    }

    /** A palace of sixteen with a sheet 0 of 8 bits and so many numbers, 1, 2, .. */
    private static IcePalace counting(int size) {
        IcePalace x = sixteen();
        x.sheet(0, 8, size);
        for (int i = 0; i < size; i++) {
            x.write(0, i, i + 1);
        }
        return x;
    }

    /** What a sheet has, seen in the GRAINS that it loads; its numbers must be 1 to 99. */
    private void shows(String what, IcePalace x, int s, int... want) {
        same("load(" + s + "): " + what, x.load(s), want.length);
        for (int i = 0; i < want.length; i++) {
            same("number " + i + " of " + s + ": " + what, x.blockOf(i, 2), want[i]);
        }
    }

    // ---- spots

    private void hold() {
        says(36, "A SPOT holds a BLOCK (GONE or not), or nothing (-1): 1.");
        IcePalace x = oneGone();
        same("a block", x.hold(0, 2), 1);
        same("it is held", x.as(0, BLOCK), 2);
        same("a GONE one", x.hold(9, 0), 1);
        same("it is held", x.as(9, BLOCK), 0);
        same("another one instead", x.hold(0, 1), 1);
        same("that one is held", x.as(0, BLOCK), 1);
        same("one in two spots", x.hold(5, 1), 1);
        same("it is held", x.as(5, BLOCK) + x.as(0, BLOCK), 2);
        same("nothing", x.hold(0, -1), 1);
        same("nothing is held", x.as(0, BLOCK), MISSING);
        same("the other spot holds it still", x.as(5, BLOCK), 1);
        same("nothing again", x.hold(0, -1), 1);
        IcePalace falling = palace("block 47;block 0");
        falling.hold(3, 0);
        falling.fall();
        same("one that is GONE then is held still", falling.as(3, BLOCK), 0);
        same("the last of sixteen", sixteen().hold(9, 15), 1);
        says(36, "BEYOND.");
        range("a spot", 0, 9, spot -> oneGone().hold(spot, 0));
        range("a spot, nothing", 0, 9, spot -> oneGone().hold(spot, -1));
        range("a block of three, or nothing", -1, 2, b -> oneGone().hold(0, b));
        range("a block of sixteen, or nothing", -1, 15, b -> sixteen().hold(0, b));
        range("a block of none, or nothing", -1, -1, b -> new IcePalace().hold(0, b));
        same("it holds what it held", x.hold(5, 3) == BEYOND && x.hold(5, -2) == BEYOND ? x.as(5, BLOCK) : -1, 1);
    }

    private void as() {
        says(37, "What a SPOT holds as one of a kind (0 to 6): the number of the BLOCK.");
        IcePalace x = sixteen();
        for (int spot = 0; spot < 10; spot++) {
            x.hold(spot, 15 - spot);
        }
        for (int spot = 0; spot < 10; spot++) {
            same("spot " + spot, x.as(spot, BLOCK), 15 - spot);
        }
        same("of its own kind", holding(LINTEL).as(4, LINTEL), 0);
        same("a GONE one", oneGoneHeld().as(1, BLOCK), 0);
        says(37, "BEYOND.");
        range("a spot", 0, 9, spot -> oneGone().as(spot, BLOCK));
        range("a kind", 0, 6, kind -> holding(THRONE).as(4, kind));
        same("a kind of nothing", new IcePalace().as(0, 7), BEYOND);
        says(37, "MISSING: it holds nothing.");
        for (int kind = 0; kind < 7; kind++) {
            same("as " + kind, new IcePalace().as(9, kind), MISSING);
        }
        IcePalace nothing = holding(BEAM);
        nothing.hold(4, -1);
        same("nothing again", nothing.as(4, BEAM), MISSING);
        says(37, "KIND: it isn't of that kind, nor of one under it.");
        int[] above = {-1, BLOCK, BLOCK, ARCH, BLOCK, BEAM, BLOCK};
        for (int kind = 0; kind < 7; kind++) {
            for (int as = 0; as < 7; as++) {
                boolean is = as == kind || as == BLOCK || as == above[kind];
                same("one of " + kind + " as one of " + as, holding(kind).as(4, as), is ? 0 : KIND);
            }
        }
        IcePalace turned = holding(ARCH);
        turned.turn(0, LINTEL);
        same("by its kind as it is now", turned.as(4, BEAM), 0);
        same("not by that which it had", turned.as(4, ARCH), KIND);
        same("one under it is not it", turned.as(4, ICICLE), KIND);
    }

    /** Spot 4 holds a block of a kind. */
    private static IcePalace holding(int kind) {
        IcePalace x = new IcePalace();
        x.block(kind, 5, 9);
        x.hold(4, 0);
        return x;
    }

    private static IcePalace oneGoneHeld() {
        IcePalace x = oneGone();
        x.hold(1, 0);
        return x;
    }

    // ---- sheets

    private void sheet() {
        says(38, "A sheet has n numbers, all 0, of 8, 16 or 32 bits;");
        for (int bits : new int[] {8, 16, 32}) {
            for (int n : new int[] {0, 1, 39, 40}) {
                laid(bits, n);
            }
        }
        IcePalace again = counting(16);
        same("laid again", again.sheet(0, 8, 16), 16);
        same("all are 0 again", again.load(0), 0);
        same("a 0 is block 0 and no other", again.judge(0), 2);
        IcePalace less = counting(16);
        less.sheet(0, 8, 3);
        less.sheet(0, 8, 16);
        same("nothing of what it had comes back", less.load(0), 0);
        for (int i = 0; i < 15; i++) {
            less.write(0, i, 40 + i);
        }
        same("the last is 0 too", less.load(0), 15);
        IcePalace other = counting(3);
        other.sheet(1, 16, 2);
        shows("another sheet is as it was", other, 0, 1, 2, 3);
        says(38, "bits 0: it is MISSING: n (0 if it is MISSING).");
        for (int n : new int[] {0, 1, 40}) {
            IcePalace x = counting(3);
            same("sheet(0, 0, " + n + ")", x.sheet(0, 0, n), 0);
            same("it is MISSING", x.load(0), MISSING);
            same("it is MISSING", x.judge(0), MISSING);
            same("it is MISSING", x.write(0, 0, 1), MISSING);
            same("it is MISSING", x.copy(0, 0, 0, 0, 0), MISSING);
            same("MISSING again", x.sheet(0, 0, n), 0);
            same("there again", x.sheet(0, 8, 3), 3);
            same("all are 0", x.load(0), 0);
        }
        says(38, "BEYOND: no such sheet, other bits.");
        range("a sheet", 0, 3, s -> new IcePalace().sheet(s, 8, 1));
        range("a sheet, to be MISSING", 0, 3, s -> new IcePalace().sheet(s, 0, 1));
        for (int bits : new int[] {MIN, -32, -16, -8, -1, 1, 4, 7, 9, 15, 17, 24, 31, 33, 64, 256, MAX}) {
            same("bits " + bits, new IcePalace().sheet(0, bits, 1), BEYOND);
        }
        says(38, "SIZE: n is below 0 (also with bits 0).");
        for (int bits : new int[] {0, 8, 16, 32}) {
            same("-1 of " + bits, new IcePalace().sheet(0, bits, -1), SIZE);
            same("the least of " + bits, new IcePalace().sheet(0, bits, MIN), SIZE);
            same("0 of " + bits, new IcePalace().sheet(0, bits, 0), 0);
        }
        same("no such sheet is asked first", new IcePalace().sheet(-1, 8, -1), BEYOND);
        same("other bits are asked first", new IcePalace().sheet(0, 9, -1), BEYOND);
        says(38, "BEYOND: n is above 40 (also with bits 0).");
        for (int bits : new int[] {0, 8, 16, 32}) {
            same("41 of " + bits, new IcePalace().sheet(0, bits, 41), BEYOND);
            same("the most of " + bits, new IcePalace().sheet(0, bits, MAX), BEYOND);
            same("40 of " + bits, new IcePalace().sheet(0, bits, 40), bits == 0 ? 0 : 40);
        }
        IcePalace kept = counting(3);
        same("it is as it was", kept.sheet(0, 0, -1) == SIZE && kept.sheet(0, 0, 41) == BEYOND ? kept.load(0) : -1, 3);
    }

    private void laid(int bits, int n) {
        IcePalace x = sixteen();
        String what = n + " numbers of " + bits + " bits";
        same(what, x.sheet(3, bits, n), n);
        same("all 0: " + what, x.load(3), 0);
        same("it has no number " + n + ": " + what, x.write(3, n, 1), BEYOND);
        if (n > 0) {
            same("its last: " + what, x.write(3, n - 1, 1), 1);
        }
        // A 0 is block 0, which stands; a second one was told.
        same("judged: " + what, x.judge(3), n < 2 ? 41 : 2);
    }

    private void write() {
        says(39, "Number i of a sheet becomes v (its lowest bits): 1.");
        IcePalace x = sixteen();
        x.sheet(0, 8, 3);
        same("the first", x.write(0, 0, 5), 1);
        same("the last", x.write(0, 2, 7), 1);
        same("that between", x.write(0, 1, 6), 1);
        shows("all three", x, 0, 5, 6, 7);
        same("another number", x.write(0, 1, 99), 1);
        shows("that one alone", x, 0, 5, 99, 7);
        written(8, 0x7f, 127);
        written(8, 0x80, -128);
        written(8, 0x163, 99);
        written(8, 0xffffff01, 1);
        written(8, MIN, 0);
        written(8, MAX, -1);
        written(16, 0x163, 0x163);
        written(16, 0x10063, 99);
        written(16, 0xffff0001, 1);
        written(16, 0x8001, -32767);
        written(16, MIN, 0);
        written(16, MAX, -1);
        written(32, 0x10063, 0x10063);
        written(32, 99, 99);
        written(32, MIN, MIN);
        written(32, MAX, MAX);
        written(32, 0xffff0001, 0xffff0001);
        says(39, "BEYOND: no such sheet.");
        range("a sheet", 0, 3, s -> allSheets().write(s, 0, 1));
        range("a sheet, MISSING", 0, 3, s -> new IcePalace().write(s, 0, 1));
        says(39, "MISSING.");
        same("at first", new IcePalace().write(0, 0, 1), MISSING);
        same("with no such number", new IcePalace().write(0, 40, 1), MISSING);
        IcePalace gone = counting(3);
        gone.sheet(0, 0, 3);
        same("again", gone.write(0, 0, 1), MISSING);
        says(39, "BEYOND: no such number.");
        range("number", 0, 2, i -> counting(3).write(0, i, 1));
        range("number of one", 0, 0, i -> counting(1).write(0, i, 1));
        range("number of 40", 0, 39, i -> allSheets().write(3, i, 1));
        for (int i = -1; i < 2; i++) {
            IcePalace none = new IcePalace();
            none.sheet(0, 8, 0);
            same("number " + i + " of none", none.write(0, i, 1), BEYOND);
        }
        IcePalace less = counting(16);
        less.sheet(0, 8, 2);
        same("one that it had", less.write(0, 2, 1), BEYOND);
    }

    /** All four sheets have 40 numbers. */
    private static IcePalace allSheets() {
        IcePalace x = sixteen();
        for (int s = 0; s < 4; s++) {
            x.sheet(s, 8, 40);
        }
        return x;
    }

    /** What a number became shows as GRAINS, if it is 1 to 99, and as a BLOCK of the lowest row. */
    private void written(int bits, int v, int becomes) {
        IcePalace x = sixteen();
        x.sheet(2, bits, 1);
        String what = v + " in " + bits + " bits";
        same("write of " + what, x.write(2, 0, v), 1);
        same("judge of " + what, x.judge(2), becomes >= 0 && becomes < 8 ? 41 : 1);
        boolean grains = becomes >= 1 && becomes <= 99;
        same("load of " + what, x.load(2), grains ? 1 : 0);
        same("grains of " + what, x.blockOf(0, 2), grains ? becomes : 9);
    }

    /** Sheet 0: 1 to 5, sheet 1: 11 to 17; sheet 2 of 16 bits, 21 to 25; sheet 3 is MISSING. */
    private static IcePalace three() {
        IcePalace x = sixteen();
        write(x, 0, 8, 1, 2, 3, 4, 5);
        write(x, 1, 8, 11, 12, 13, 14, 15, 16, 17);
        write(x, 2, 16, 21, 22, 23, 24, 25);
        return x;
    }

    private void copy() {
        says(40, "n numbers of a sheet from one on come to another one from one on (as they all were): n.");
        IcePalace x = three();
        same("copy(0, 1, 1, 2, 3)", x.copy(0, 1, 1, 2, 3), 3);
        shows("three of them", x, 1, 11, 12, 2, 3, 4, 16, 17);
        shows("whence they came", x, 0, 1, 2, 3, 4, 5);
        IcePalace whole = three();
        same("all", whole.copy(0, 0, 1, 0, 5), 5);
        shows("all", whole, 1, 1, 2, 3, 4, 5, 16, 17);
        IcePalace last = three();
        same("one to the end", last.copy(0, 4, 1, 6, 1), 1);
        shows("the last", last, 1, 11, 12, 13, 14, 15, 16, 5);
        IcePalace none = three();
        same("none", none.copy(0, 2, 1, 3, 0), 0);
        shows("none", none, 1, 11, 12, 13, 14, 15, 16, 17);
        IcePalace up = three();
        same("of one sheet, upward", up.copy(1, 0, 1, 2, 5), 5);
        shows("as they were", up, 1, 11, 12, 11, 12, 13, 14, 15);
        IcePalace down = three();
        same("of one sheet, downward", down.copy(1, 2, 1, 0, 5), 5);
        shows("as they were", down, 1, 13, 14, 15, 16, 17, 16, 17);
        IcePalace still = three();
        same("to where they are", still.copy(1, 0, 1, 0, 7), 7);
        shows("as they were", still, 1, 11, 12, 13, 14, 15, 16, 17);
        for (int bits : new int[] {8, 16, 32}) {
            IcePalace most = new IcePalace();
            most.sheet(0, bits, 40);
            most.sheet(3, bits, 40);
            same("40 of " + bits + " bits", most.copy(0, 0, 3, 0, 40), 40);
        }
        IcePalace later = three();
        later.copy(0, 0, 1, 0, 5);
        later.write(0, 0, 77);
        shows("what is written later stays where it is", later, 1, 1, 2, 3, 4, 5, 16, 17);
        says(40, "BEYOND: no such sheet (either).");
        range("a sheet", 0, 3, s -> allSheets().copy(s, 0, 0, 0, 1));
        range("to a sheet", 0, 3, t -> allSheets().copy(0, 0, t, 0, 1));
        same("ahead of MISSING", three().copy(3, 0, 4, 0, 1), BEYOND);
        same("ahead of MISSING", three().copy(4, 0, 3, 0, 1), BEYOND);
        says(40, "MISSING: one is.");
        same("the first", three().copy(3, 0, 0, 0, 1), MISSING);
        same("the second", three().copy(0, 0, 3, 0, 1), MISSING);
        same("both", three().copy(3, 0, 3, 0, 0), MISSING);
        same("ahead of KIND and BEYOND", three().copy(2, -1, 3, 0, 41), MISSING);
        says(40, "KIND: they are not of as many bits.");
        int[] kinds = {8, 16, 32};
        for (int a : kinds) {
            for (int b : kinds) {
                IcePalace y = new IcePalace();
                y.sheet(0, a, 2);
                y.sheet(1, b, 2);
                same("of " + a + " bits to " + b, y.copy(0, 0, 1, 0, 2), a == b ? 2 : KIND);
                same("none of " + a + " bits to " + b, y.copy(0, 0, 1, 0, 0), a == b ? 0 : KIND);
            }
        }
        same("ahead of BEYOND", three().copy(0, -1, 2, 0, 1), KIND);
        same("ahead of BEYOND", three().copy(2, 0, 0, 0, 6), KIND);
    }

    private void copyRanges() {
        says(40, "BEYOND: one has not so many, or from, to or n is below 0.");
        same("five of five", three().copy(0, 0, 1, 0, 5), 5);
        same("six of five", three().copy(0, 0, 1, 0, 6), BEYOND);
        same("six to five", three().copy(1, 0, 0, 0, 6), BEYOND);
        same("five of four", three().copy(0, 1, 1, 0, 5), BEYOND);
        same("four of four", three().copy(0, 1, 1, 0, 4), 4);
        same("five to five", three().copy(0, 0, 1, 2, 5), 5);
        same("five to four", three().copy(0, 0, 1, 3, 5), BEYOND);
        same("one of none", three().copy(0, 5, 1, 0, 1), BEYOND);
        same("one to none", three().copy(0, 0, 1, 7, 1), BEYOND);
        same("none of none", three().copy(0, 5, 1, 7, 0), 0);
        range("from", 0, 2, from -> three().copy(0, from, 1, 0, 3));
        range("to", 0, 4, to -> three().copy(0, 0, 1, to, 3));
        range("n", 0, 3, n -> three().copy(0, 2, 1, 1, n));
        range("n to fewer", 0, 3, n -> three().copy(1, 2, 0, 2, n));
        same("sums beyond all numbers", three().copy(0, 1, 1, 0, MAX), BEYOND);
        same("sums beyond all numbers", three().copy(0, MAX, 1, 0, MAX), BEYOND);
        same("sums beyond all numbers", three().copy(0, MAX, 1, MAX, 2), BEYOND);
        same("below 0 and above together", three().copy(0, -1, 1, 0, 6), BEYOND);
        same("below 0 and above together", three().copy(0, 6, 1, 0, -1), BEYOND);
        IcePalace empty = new IcePalace();
        empty.sheet(0, 8, 0);
        same("none of an empty one to itself", empty.copy(0, 0, 0, 0, 0), 0);
        same("one of an empty one", empty.copy(0, 0, 0, 0, 1), BEYOND);
        IcePalace less = counting(16);
        less.sheet(1, 8, 16);
        less.sheet(0, 8, 2);
        same("those that it had are none", less.copy(0, 0, 1, 0, 3), BEYOND);
    }

    private void load() {
        says(41, "Numbers of a sheet, from its begin on, become GRAINS of BLOCKS 0, 1, .. that aren't GONE");
        IcePalace x = counting(16);
        shows("sixteen", x, 0, 1, 2, 3, 4, 5, 6, 7, 8, 9, 10, 11, 12, 13, 14, 15, 16);
        IcePalace few = counting(3);
        shows("three", few, 0, 1, 2, 3);
        same("the fourth is as it was", few.blockOf(3, 2), 9);
        same("no AIR", few.count(4), 0);
        same("loose ones too", loaded(palace("block 47"), 5), 1);
        same("whatever it has", loaded(palace("block 0 grains 99;block 1 grains 1"), 1, 99), 2);
        says(41, "(a GONE one's is passed):");
        IcePalace gone = oneGone();
        same("three", loaded(gone, 31, 32, 33), 3);
        int[] want = {0, 32, 33};
        for (int b = 0; b < 3; b++) {
            same("grains of " + b, gone.blockOf(b, 2), want[b]);
        }
        same("it is GONE still", gone.blockOf(0, 3), 1);
        same("on no cell", gone.blockOf(0, 1), -1);
        IcePalace amid = palace("block 0;block 47;block 1");
        amid.fall();
        same("one amid others", loaded(amid, 51, 52, 53), 3);
        same("behind it", amid.blockOf(2, 2) * 100 + amid.blockOf(0, 2), 5351);
        IcePalace end = palace("block 0;block 47");
        end.fall();
        same("the last", loaded(end, 61, 62, 63), 2);
        same("it has none", end.blockOf(1, 2), 0);
        says(41, "how many were read.");
        same("none of a sheet of none", loaded(sixteen()), 0);
        same("all of 16", counting(16).load(0), 16);
        same("one", loaded(sixteen(), 1), 1);
        IcePalace all = palace("block 47;block 46");
        all.fall();
        same("GONE ones' are read", loaded(all, 7, 8, 9), 2);
        same("but give none", all.count(3), 0);
        says(41, "It ends at the first that isn't 1 to 99,");
        for (int v : new int[] {MIN, -1, 0, 100, 256, 65536, MAX}) {
            IcePalace y = sixteen();
            same("with " + v, loaded(y, 1, 99, v, 5), 2);
            same("grains of 0 to 3", y.blockOf(0, 2) + y.blockOf(1, 2) * 100 + y.blockOf(2, 2) + y.blockOf(3, 2), 9919);
            same("with " + v + " first", loaded(sixteen(), v, 5, 6), 0);
        }
        same("1", loaded(sixteen(), 1, 1, 1), 3);
        same("99", loaded(sixteen(), 99, 99, 99), 3);
        same("a GONE one's too", loaded(oneGone(), 0, 5, 6), 0);
        says(41, "or for which there is no BLOCK.");
        same("three for two", loaded(palace("block 0;block 1"), 5, 6, 7), 2);
        same("none for one", loaded(new IcePalace(), 5), 0);
        same("17 for 16", counting(17).load(0), 16);
        same("40 for 16", counting(40).load(0), 16);
        says(41, "BEYOND: no such sheet.");
        range("a sheet", 0, 3, s -> allSheets().load(s));
        range("a sheet, MISSING", 0, 3, s -> new IcePalace().load(s));
        says(41, "MISSING.");
        for (int s = 0; s < 4; s++) {
            same("sheet " + s, sixteen().load(s), MISSING);
        }
    }

    private static int loaded(IcePalace x, int... numbers) {
        write(x, 1, 32, numbers);
        return x.load(1);
    }

    private static int judged(IcePalace x, int... numbers) {
        write(x, 3, 32, numbers);
        return x.judge(3);
    }

    private void judge() {
        says(42, "THE READER: numbers of a sheet are BLOCKS as they are built, one by one, each STANDING as it comes:");
        same("upward", judged(palace("block 0;block 8;block 16"), 0, 1, 2), 0);
        same("downward", judged(palace("block 0;block 8;block 16"), 2, 1, 0), 1);
        same("an arch behind both", judged(palace("arch 9;block 8;block 10;block 0;block 2"), 3, 1, 4, 2, 0), 0);
        same("an arch behind one", judged(palace("arch 9;block 8;block 10;block 0;block 2"), 3, 1, 0, 4, 2), 3);
        same("an icicle ahead of the beam above it",
            judged(palace("icicle 9;beam 17;block 16;block 8;block 0"), 4, 3, 2, 0, 1), 4);
        same("another order than the first, by numbers", judged(palace("block 0;block 1;block 2"), 2, 0, 1), 0);
        same("sixteen", judged(chain(), 15, 14, 13, 12, 11, 10, 9, 8, 7, 6, 5, 4, 3, 2, 1, 0), 0);
        same("too heavy a one", judged(palace("block 8 grains 99;block 0 grains 1"), 1, 0), 0);
        says(42, "0 if so, and all that aren't GONE are there;");
        same("none of none", judged(new IcePalace()), 0);
        same("one of one", judged(palace("block 3"), 0), 0);
        same("all but the GONE one", judged(oneGone(), 2, 1), 0);
        IcePalace all = palace("block 47");
        all.fall();
        same("all are GONE", judged(all), 0);
        says(42, "else 1 and the place of the first that doesn't,");
        same("the first", judged(palace("block 8;block 0"), 0, 1), 1);
        same("the second", judged(palace("block 16;block 8;block 0"), 2, 0, 1), 2);
        same("the first of two", judged(palace("block 16;block 8;block 47;block 0"), 3, 1, 2, 0, 2), 3);
        same("the 16th", judged(loneAbove(), 0, 1, 2, 3, 4, 5, 6, 7, 8, 9, 10, 11, 12, 13, 14, 15), 16);
        says(42, "is GONE,");
        same("the first", judged(oneGone(), 0, 1, 2), 1);
        same("the third", judged(oneGone(), 1, 2, 0), 3);
        same("alone", judged(all, 0), 1);
        says(42, "was told,");
        same("at once", judged(palace("block 0;block 1"), 0, 0, 1), 2);
        same("behind all", judged(palace("block 0;block 1"), 0, 1, 0), 3);
        same("at place 39, no sooner than 1", judged(palace("block 0"), new int[40]), 2);
        says(42, "or is no BLOCK;");
        for (int v : new int[] {MIN, -1, 2, 16, 40, 256, 65536, MAX}) {
            same(v + " first", judged(palace("block 0;block 1"), v, 0, 1), 1);
            same(v + " behind all", judged(palace("block 0;block 1"), 0, 1, v), 3);
        }
        same("16 of sixteen", judged(sixteen(), 0, 1, 2, 3, 4, 5, 6, 7, 8, 9, 10, 11, 12, 13, 14, 15, 16), 17);
        same("none there", judged(new IcePalace(), 0), 1);
        says(42, "41 if not all are there.");
        same("none of one", judged(palace("block 0")), 41);
        same("one of two", judged(palace("block 0;block 1"), 1), 41);
        same("fifteen of sixteen", judged(sixteen(), 0, 1, 2, 3, 4, 5, 6, 7, 8, 9, 10, 11, 12, 13, 14), 41);
        same("all but one that can't stand", judged(palace("block 0;block 47"), 0), 41);
        same("a wrong one is told first", judged(palace("block 0;block 8;block 47"), 0, 2), 2);
        IcePalace x = sixteen();
        judged(x, 0, 1, 2, 3);
        same("nothing changes", x.count(3), 144);
        says(42, "BEYOND: no such sheet.");
        range("a sheet", 0, 3, s -> allSheets().judge(s));
        range("a sheet, MISSING", 0, 3, s -> new IcePalace().judge(s));
        says(42, "MISSING.");
        for (int s = 0; s < 4; s++) {
            same("sheet " + s, new IcePalace().judge(s), MISSING);
        }
    }

    /** Sixteen blocks, the last of which stands by none. */
    private static IcePalace loneAbove() {
        IcePalace x = sixteen();
        x.take(15, 47);
        return x;
    }

    // ---- images

    /** Something of all that an image keeps. */
    private static IcePalace rich() {
        IcePalace x = palace("block 0 grains 30;block 47 grains 3;arch 8 grains 6;pillar 1 grains 4",
            "candle 1 at 1 power 30 lit;candle 2 at 9 power 12 lit;candle 4 at 30 power 3;cold -20");
        x.hours(1);
        x.hold(3, 2);
        x.hold(9, 1);
        x.seed(77);
        return x;
    }

    /** Changes all that an image keeps. */
    private static void upset(IcePalace x) {
        tell(x, "lintel 40 grains 8;candle 1 at 2;candle 4 at 5 power 9 lit;cold 17");
        x.hold(3, -1);
        x.hold(0, 0);
        x.hold(9, 3);
        x.turn(0, THRONE);
        x.hours(2);
        x.block(BEAM, 6, 50);
        x.take(5, 7);
        x.wind(3);
        x.dance(2);
    }

    private void image() {
        says(43, "All but THE TAPE and SHEETS is kept: 1.");
        same("image()", new IcePalace().image(), 1);
        IcePalace x = rich();
        same("image() of a rich one", x.image(), 1);
        same("image() again", x.image(), 1);
        upset(x);
        same("undo()", x.undo(), 1);
        unchanged("image(), much else and undo()", x, twin());
        IcePalace full = sixteen();
        full.image();
        for (int b = 0; b < 16; b++) {
            full.turn(b, LINTEL);
            full.take(b, b + 16);
            full.water(b, 50);
        }
        full.undo();
        for (int b = 0; b < 16; b++) {
            same("the kind of " + b, full.blockOf(b, 0), BLOCK);
            same("the cell of " + b, full.blockOf(b, 1), b);
            same("the grains of " + b, full.blockOf(b, 2), 9);
        }
        IcePalace tape = new IcePalace();
        feed(tape, "cold 1");
        tape.image();
        feed(tape, "2");
        tape.undo();
        same("THE TAPE is as it was ahead of undo()", tape.count(6), 7);
        same("its text", tape.text() == 1 ? tape.cold(0) : -1, 12);
        tape.undo();
        same("none comes back", tape.count(6), 0);
        IcePalace sheets = sixteen();
        write(sheets, 0, 8, 5, 6);
        sheets.image();
        write(sheets, 0, 16, 7, 8, 10);
        sheets.sheet(1, 8, 2);
        sheets.undo();
        shows("SHEETS are as they were ahead of undo()", sheets, 0, 7, 8, 10);
        same("another one", sheets.load(1), 0);
        sheets.sheet(0, 0, 0);
        sheets.undo();
        same("one that is MISSING doesn't come back", sheets.load(0), MISSING);
        IcePalace kept = rich();
        kept.image();
        same("what is kept is not what is", kept.turn(0, BEAM) == BLOCK ? kept.undo() : -1, 1);
        same("the kind", kept.blockOf(0, 0), BLOCK);
    }

    /** As rich(), with the same kept. */
    private static IcePalace twin() {
        IcePalace x = rich();
        x.image();
        return x;
    }

    private void undo() {
        says(44, "It becomes what was kept latest (which stays): HOUR.");
        IcePalace x = palace("block 0 grains 50;cold 1");
        x.image();
        same("at HOUR 0", x.undo(), 0);
        x.hours(5);
        x.image();
        x.hours(4);
        same("latest", x.undo(), 5);
        same("grains", x.blockOf(0, 2), 45);
        x.hours(48);
        same("it stays", x.undo(), 5);
        same("grains", x.blockOf(0, 2), 45);
        same("HOUR", x.count(0), 5);
        x.hours(1);
        x.take(0, 7);
        same("it stays", x.undo(), 5);
        same("where it was", x.on(0), 0);
        same("not where it is no more", x.on(7), -1);
        IcePalace last = aged(9999);
        last.image();
        same("9999", last.undo(), 9999);
        IcePalace first = palace("block 0");
        first.image();
        first.block(BLOCK, 1, 5);
        first.hold(0, 1);
        same("blocks that came later", first.undo(), 0);
        same("are none", first.blockOf(1, 0), BEYOND);
        same("are held nowhere", first.as(0, BLOCK), MISSING);
        same("their number is the next one's", first.block(BEAM, 1, 6), 1);
        IcePalace back = palace("block 0 grains 9;block 8 grains 3;cold 5");
        back.image();
        back.hours(2);
        same("those that are GONE", back.count(2), 2);
        back.undo();
        same("are back", back.on(0) * 10 + back.on(8), 1);
        same("with their grains", back.count(3), 12);
        same("AIR and RUBBLE too", back.count(4) + back.count(5), 0);
        says(44, "NONE: nothing is kept.");
        same("at first", new IcePalace().undo(), NONE);
        IcePalace torn = palace("block 0");
        torn.image();
        torn.tear();
        torn.take(0, 3);
        same("torn", torn.undo(), NONE);
        same("it is where it is", torn.on(3), 0);
        torn.image();
        torn.take(0, 4);
        same("kept again", torn.undo(), 0);
        same("it is back", torn.on(3), 0);
    }

    private void tear() {
        says(45, "Nothing is kept: 1 if something was, else 0.");
        IcePalace x = palace("block 0");
        same("at first", x.tear(), 0);
        x.image();
        same("one", x.tear(), 1);
        same("none", x.tear(), 0);
        same("nothing is kept", x.undo(), NONE);
        x.image();
        x.image();
        same("two images are one", x.tear(), 1);
        same("two images are one", x.tear(), 0);
        x.image();
        x.undo();
        same("it stays behind undo()", x.tear(), 1);
        same("nothing else changes", x.count(3) + x.on(0), 20);
        same("a finding it is not", x.status(-1), 1);
    }

    private void count() {
        says(46, "0 HOUR, 1 BLOCKS, 2 those that are GONE, 3 GRAINS of all, 4 AIR, 5 RUBBLE, 6 bytes of THE TAPE, 7 z.");
        IcePalace x = palace("block 0 grains 90;block 1 grains 4;block 47 grains 7;cold 3");
        feed(x, "cold");
        x.seed(-5);
        counts("ahead of an hour", x, 0, 3, 0, 101, 0, 0, 4, -5);
        x.hours(1);
        counts("behind an hour", x, 1, 3, 1, 88, 9, 4, 4, -5);
        x.hours(1);
        counts("behind two", x, 2, 3, 2, 84, 13, 4, 4, -5);
        x.seed(MIN);
        x.wipe();
        counts("another z, no tape", x, 2, 3, 2, 84, 13, 4, 0, MIN);
        x.wind(1);
        same("z behind a draw", x.count(7), MIN + 12345);
        IcePalace most = new IcePalace();
        for (int b = 0; b < 16; b++) {
            most.block(BLOCK, b, 99);
        }
        feed(most, " ".repeat(120));
        counts("the most", most, 0, 16, 0, 1584, 0, 0, 120, 1);
        IcePalace last = aged(9999);
        same("the last hour", last.count(0), 9999);
        IcePalace findings = new IcePalace();
        findings.seed(BEYOND);
        same("z as a finding", findings.count(7), BEYOND);
        same("it is none", findings.status(-1), 0);
        says(46, "BEYOND: another what.");
        range("what", 0, 7, what -> new IcePalace().count(what));
    }

    private void counts(String when, IcePalace x, int... want) {
        for (int what = 0; what < want.length; what++) {
            same("count(" + what + ") " + when, x.count(what), want[what]);
        }
    }

    private void status() {
        says(47, "How many acts answered a finding ever (undo() takes none back):");
        IcePalace x = palace("block 0");
        same("none", x.status(-1), 0);
        x.image();
        x.on(48);
        x.on(-1);
        same("undo()", x.undo(), 0);
        same("takes none back", x.status(-1), 2);
        same("takes none back", x.status(0), 2);
        x.tear();
        x.undo();
        same("NONE of undo() itself", x.status(3), 1);
        tell(x, "cold 99");
        same("a FAULT is no finding", x.status(-1), 3);
        x.judge(0);
        same("behind others", x.status(-1), 4);
        IcePalace other = new IcePalace();
        same("of this object alone", other.status(-1), 0);
        says(47, "which -1: all, 0 to 6: BEYOND to SIZE.");
        IcePalace y = each();
        int[] want = {1, 2, 3, 4, 5, 6, 7};
        for (int which = 0; which < 7; which++) {
            same("status(" + which + ")", y.status(which), want[which]);
        }
        same("status(-1)", y.status(-1), 28);
        same("asking is no finding", y.status(-1), 28);
        says(47, "BEYOND (counted from then on): another one.");
        range("which", -1, 6, which -> new IcePalace().status(which));
        same("status(7)", y.status(7), BEYOND);
        same("counted", y.status(0), 2);
        same("status(-2)", y.status(-2), BEYOND);
        same("counted", y.status(0), 3);
        same("counted in all", y.status(-1), 30);
        same("no other", y.status(6), 7);
    }

    /** One BEYOND, two FULL, three KIND, four NONE, five STATE, six MISSING, seven SIZE. */
    private static IcePalace each() {
        IcePalace x = sixteen();
        x.hold(0, 0);
        x.on(48);
        for (int i = 0; i < 2; i++) {
            x.block(BLOCK, 40, 5);
        }
        for (int i = 0; i < 3; i++) {
            x.as(0, BEAM);
        }
        for (int i = 0; i < 4; i++) {
            x.undo();
        }
        for (int i = 0; i < 5; i++) {
            x.take(0, 1);
        }
        for (int i = 0; i < 6; i++) {
            x.load(0);
        }
        for (int i = 0; i < 7; i++) {
            x.sheet(0, 8, -1);
        }
        return x;
    }
}
