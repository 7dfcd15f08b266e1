/** Each promise by hand: ordinary inputs, the edges that the document names, wrong inputs. */
public final class PromiseTest extends Palaces {
    private static final Due DUE = new Due("PromiseTest");

    public static void main(String[] args) {
        promise1();
        blocks();
        stands();
        candles();
        oneHour();
        falls();
        lastHours();
        ahead();
        choices();
        drawing();
        building();
        dancing();
        tapes();
        texts();
        textFaults();
        spots();
        sheets();
        readers();
        images();
        counts();
        for (int promise = 1; promise <= 47; promise++) {
            DUE.holds("promise " + promise + " has a test", DUE.asked(promise) > 0);
        }
        DUE.end();
    }

    private static void due(int promise, String call, int got, int want) {
        DUE.same(promise, call, got, want);
    }

    /** Answers that are all due to be the same. */
    private static void all(int promise, String calls, int want, int... got) {
        for (int i = 0; i < got.length; i++) {
            due(promise, calls + " (" + i + ")", got[i], want);
        }
    }

    private static void promise1() {
        IcePalace x = new IcePalace();
        int[] counts = {0, 0, 0, 0, 0, 0, 0, 1};
        for (int what = 0; what < 8; what++) {
            due(1, "count(" + what + ")", x.count(what), counts[what]);
        }
        for (int cell = 0; cell < 48; cell++) {
            due(1, "on(" + cell + ")", x.on(cell), -1);
            due(1, "warmth(" + cell + ")", x.warmth(cell), -5);
        }
        for (int c = 0; c < 6; c++) {
            due(1, "candle(" + c + ", 0, 0)", x.candle(c, 0, 0), 0);
            due(1, "candle(" + c + ", 1, 0)", x.candle(c, 1, 0), 0);
            due(1, "lit(" + c + ", false)", x.lit(c, false), 0);
        }
        all(1, "no blocks", 0, x.light(), x.loose(), x.weak(), x.wipe(), x.tear());
        due(1, "cold(-5)", x.cold(-5), -5);
        for (int which = -1; which < 7; which++) {
            due(1, "status(" + which + ")", x.status(which), 0);
        }
        due(1, "undo()", x.undo(), NONE);
        for (int spot = 0; spot < 10; spot++) {
            due(1, "as(" + spot + ", 0)", x.as(spot, 0), MISSING);
        }
        for (int s = 0; s < 4; s++) {
            due(1, "load(" + s + ")", x.load(s), MISSING);
        }
        IcePalace y = new IcePalace();
        y.block(0, 0, 5);
        due(1, "another object has its own blocks", x.on(0), -1);
    }

    private static void blocks() {
        newBlocks();
        blocksTold();
        blocksMoved();
        watered();
    }

    private static void newBlocks() {
        IcePalace x = new IcePalace();
        due(2, "block(0, 0, 1)", x.block(BLOCK, 0, 1), 0);
        due(2, "block(6, 47, 99), standing or not", x.block(ICICLE, 47, 99), 1);
        due(2, "on a taken cell", x.block(ARCH, 0, 5), STATE);
        all(2, "block beyond", BEYOND, x.block(-1, 1, 1), x.block(7, 1, 1), x.block(0, -1, 1), x.block(0, 48, 1),
            x.block(0, 1, 0), x.block(0, 1, 100), x.block(MIN, 1, 1), x.block(MAX, 1, 1), x.block(0, MIN, 1),
            x.block(0, MAX, 1), x.block(0, 1, MIN), x.block(0, 1, MAX));
        due(2, "BEYOND ahead of STATE", x.block(7, 0, 1), BEYOND);
        due(2, "findings build nothing", x.count(1), 2);
        for (int i = 2; i < 16; i++) {
            due(2, "block number " + i, x.block(i % 7, i, i), i);
        }
        due(2, "a 17th", x.block(BLOCK, 20, 5), FULL);
        due(2, "FULL ahead of STATE", x.block(BLOCK, 0, 5), FULL);
        due(2, "BEYOND ahead of FULL", x.block(BLOCK, 48, 5), BEYOND);
        due(2, "fall()", x.fall() > 0 ? 1 : 0, 1);
        due(2, "GONE ones count for FULL", x.block(BLOCK, 20, 5), FULL);
        IcePalace y = new IcePalace();
        y.block(BLOCK, 8, 5);
        y.fall();
        due(2, "on the cell of a GONE one", y.block(BEAM, 8, 7), 1);
        due(2, "grains of it", y.blockOf(1, 2), 7);
        due(2, "kind of it", y.blockOf(1, 0), BEAM);
    }

    private static void blocksTold() {
        IcePalace x = palace("block 0 grains 10;throne 8 grains 9;pillar 16 grains 8;lintel 24 grains 7;icicle 32 grains 6;arch 40 grains 5");
        int[][] told = {
            {BLOCK, 0, 10, 0, 1, 35, 40},
            {THRONE, 8, 9, 0, 1, 26, 56},
            {PILLAR, 16, 8, 0, 1, 18, 96},
            {LINTEL, 24, 7, 0, 1, 11, 56},
            {ICICLE, 32, 6, 0, 0, 5, 24},
            {ARCH, 40, 5, 0, 0, 0, 20}};
        for (int b = 0; b < 6; b++) {
            for (int what = 0; what < 7; what++) {
                due(3, "blockOf(" + b + ", " + what + ")", x.blockOf(b, what), told[b][what]);
            }
        }
        due(3, "strength of a BEAM", palace("beam 3 grains 11").blockOf(0, 6), 44);
        all(3, "blockOf beyond", BEYOND, x.blockOf(6, 0), x.blockOf(-1, 0), x.blockOf(0, 7), x.blockOf(0, -1),
            x.blockOf(MIN, 0), x.blockOf(MAX, 0), x.blockOf(0, MIN), x.blockOf(0, MAX), x.blockOf(16, 0));
        x.fall();
        int[] gone = {ICICLE, -1, 0, 1, 0, 0, 0};
        for (int what = 0; what < 7; what++) {
            due(3, "of a GONE one blockOf(4, " + what + ")", x.blockOf(4, what), gone[what]);
        }
        IcePalace y = palace("throne 9 grains 9;block 3 grains 5;block 19 grains 7");
        due(3, "load ends at an empty cell", y.blockOf(1, 5), 0);
        y.fall();
        due(3, "strength of a GONE throne", y.blockOf(0, 6), 0);
    }

    private static void blocksMoved() {
        IcePalace x = palace("block 0;block 8;arch 9");
        due(4, "turn(1, 6)", x.turn(1, ICICLE), BLOCK);
        due(4, "kind then", x.blockOf(1, 0), ICICLE);
        due(4, "an icicle stands on none", x.loose(), 6);
        due(4, "turn(2, 3)", x.turn(2, THRONE), ARCH);
        due(4, "turn(2, 3) again", x.turn(2, THRONE), THRONE);
        all(4, "turn beyond", BEYOND, x.turn(3, 0), x.turn(-1, 0), x.turn(0, 7), x.turn(0, -1), x.turn(MIN, 0),
            x.turn(MAX, 0), x.turn(0, MIN), x.turn(0, MAX));
        due(4, "findings turn nothing", x.blockOf(0, 0), BLOCK);
        x.fall();
        due(4, "turn of a GONE one", x.turn(1, LINTEL), ICICLE);
        due(4, "kind of a GONE one", x.blockOf(1, 0), LINTEL);

        IcePalace y = palace("block 0;block 8;block 9");
        due(5, "take(1, 47)", y.take(1, 47), 8);
        due(5, "cell then", y.blockOf(1, 1), 47);
        due(6, "on(47)", y.on(47), 1);
        due(6, "on(8)", y.on(8), -1);
        due(5, "to its own cell", y.take(1, 47), 47);
        due(6, "on(47) still", y.on(47), 1);
        due(5, "where another is", y.take(1, 0), STATE);
        all(5, "take beyond", BEYOND, y.take(3, 1), y.take(-1, 1), y.take(0, 48), y.take(0, -1), y.take(MAX, 0),
            y.take(MIN, 0), y.take(0, MIN), y.take(0, MAX));
        due(5, "findings take nothing", y.on(0), 0);
        y.fall();
        due(5, "a GONE one", y.take(1, 20), STATE);
        due(5, "a GONE one, BEYOND first", y.take(1, 48), BEYOND);
        due(5, "to a GONE one's cell", y.take(0, 9), 0);
        due(6, "on(9)", y.on(9), 0);
        all(6, "on beyond", BEYOND, y.on(-1), y.on(48), y.on(MIN), y.on(MAX));
    }

    private static void watered() {
        IcePalace x = palace("block 0 grains 90;block 8 grains 4;block 30");
        due(7, "water(0, 5)", x.water(0, 5), 5);
        due(7, "99 in all at most", x.water(0, 99), 4);
        due(7, "grains then", x.blockOf(0, 2), 99);
        due(7, "no room", x.water(0, 1), 0);
        due(7, "air gives nothing", x.count(4), 0);
        all(7, "water beyond", BEYOND, x.water(3, 1), x.water(-1, 1), x.water(1, 0), x.water(1, 100), x.water(1, MIN),
            x.water(1, MAX), x.water(MIN, 1), x.water(MAX, 1));
        x.cold(0);
        due(7, "warmth 0 is not below 0", x.water(1, 1), STATE);
        due(7, "BEYOND ahead of STATE", x.water(1, 0), BEYOND);
        x.cold(-1);
        due(7, "warmth -1", x.water(1, 1), 1);
        x.candle(2, 0, 8);
        x.candle(2, 1, 1);
        x.lit(2, true);
        due(7, "a candle warms it", x.water(1, 1), STATE);
        due(7, "not the one below", x.water(0, 1), 0);
        x.fall();
        due(7, "a GONE one", x.water(2, 1), STATE);
    }

    /** Whether a block STANDS, by its text being the last one. */
    private static void stand(String text, boolean does) {
        IcePalace x = palace(text);
        int last = x.count(1) - 1;
        due(3, "standing, last of '" + text + "'", x.blockOf(last, 4), does ? 1 : 0);
        due(15, "loose, last of '" + text + "'", x.loose() >> last & 1, does ? 0 : 1);
    }

    private static void stands() {
        for (String kind : new String[] {"block", "arch", "beam", "throne", "pillar", "lintel", "icicle"}) {
            boolean arch = kind.equals("arch") || kind.equals("throne");
            boolean beam = kind.equals("beam") || kind.equals("lintel");
            boolean icicle = kind.equals("icicle");
            stand(kind + " 0", true);
            stand(kind + " 7", true);
            stand(kind + " 8", false);
            stand(kind + " 47", false);
            stand("block 1;" + kind + " 9", !icicle);
            stand("block 1;block 9;" + kind + " 10", beam);
            stand("block 3;block 11;" + kind + " 10", beam);
            stand("block 1;block 9;block 3;block 11;" + kind + " 10", beam || arch);
            stand("block 1;block 9;block 11;" + kind + " 10", beam);
            stand("block 9;block 11;" + kind + " 10", false);
            stand("block 0;block 8;block 16;beam 17;" + kind + " 9", icicle || beam);
            stand("block 17;" + kind + " 9", false);
            // Neither end of a row is beside the begin of the next one.
            stand("block 7;block 1;block 9;" + kind + " 8", beam);
            stand("block 7;block 15;" + kind + " 16", false);
            stand("block 0;block 8;block 16;" + kind + " 15", false);
            stand("block 6;block 14;block 0;block 8;block 16;" + kind + " 15", beam);
            stand("block 7;block 15;" + kind + " 14", beam);
            stand("block 5;block 13;block 7;block 15;" + kind + " 14", beam || arch);
            stand("block 0;block 8;block 2;block 10;" + kind + " 9", beam || arch);
        }
        stand("beam 11;beam 10;beam 9;block 8;block 0;beam 12", true);
        due(15, "two beams bear one another not", palace("beam 10;beam 11").loose(), 3);
        due(15, "found again and again", palace("beam 13;beam 12;beam 11;beam 10;beam 9;block 8;block 0").loose(), 0);
        due(15, "all loose", palace("block 8;block 16;icicle 47;block 3").loose(), 7);
        IcePalace x = palace("block 8;block 0");
        due(15, "loose()", x.loose(), 0);
        x.take(1, 1);
        due(15, "loose() then", x.loose(), 1);
        x.fall();
        due(15, "GONE ones are not loose", x.loose(), 0);
    }

    private static void candles() {
        IcePalace x = new IcePalace();
        due(8, "candle(5, 0, 47)", x.candle(5, 0, 47), 0);
        due(8, "candle(5, 0, 9)", x.candle(5, 0, 9), 47);
        due(8, "candle(5, 1, 30)", x.candle(5, 1, 30), 0);
        due(8, "candle(5, 1, 0)", x.candle(5, 1, 0), 30);
        due(8, "cell is as it was", x.candle(5, 0, 0), 9);
        all(8, "candle beyond", BEYOND, x.candle(6, 0, 0), x.candle(-1, 0, 0), x.candle(0, 2, 0), x.candle(0, -1, 0),
            x.candle(0, 0, 48), x.candle(0, 0, -1), x.candle(0, 1, 31), x.candle(0, 1, -1), x.candle(MIN, 0, 0),
            x.candle(MAX, 0, 0), x.candle(0, MIN, 0), x.candle(0, MAX, 0), x.candle(0, 0, MIN), x.candle(0, 1, MAX));
        due(9, "lit(5, true)", x.lit(5, true), 0);
        due(9, "lit(5, true) again", x.lit(5, true), 1);
        due(9, "lit(5, false)", x.lit(5, false), 1);
        due(9, "lit(5, false) again", x.lit(5, false), 0);
        all(9, "lit beyond", BEYOND, x.lit(6, true), x.lit(-1, true), x.lit(MIN, false), x.lit(MAX, true));
        due(10, "cold(20)", x.cold(20), -5);
        due(10, "cold(-20)", x.cold(-20), 20);
        all(10, "cold beyond", BEYOND, x.cold(21), x.cold(-21), x.cold(MIN), x.cold(MAX));
        due(10, "cold(0)", x.cold(0), -20);
        due(11, "warmth without candles", x.warmth(30), 0);

        IcePalace y = new IcePalace();
        y.candle(0, 1, 5);
        y.candle(1, 1, 5);
        y.lit(0, true);
        y.lit(1, true);
        due(11, "each candle's is cut by itself", y.warmth(1), -1);
        due(11, "at the candles", y.warmth(0), 5);
        due(12, "light()", y.light(), 10);
        y.lit(1, false);
        due(12, "light() of one", y.light(), 5);
        due(11, "one alone", y.warmth(0), 0);
        y.candle(0, 1, 30);
        due(11, "rows and columns", y.warmth(18), 1);
        due(11, "farthest", y.warmth(47), -3);
        y.candle(0, 0, 20);
        due(11, "to the left and below", y.warmth(9), 1);
        due(11, "one row above, four to the left", y.warmth(24), 0);
        all(11, "warmth beyond", BEYOND, y.warmth(48), y.warmth(-1), y.warmth(MIN), y.warmth(MAX));
        for (int c = 0; c < 6; c++) {
            y.candle(c, 1, 30);
            y.lit(c, true);
        }
        due(12, "most light", y.light(), 180);
    }

    private static void grains(int promise, String when, IcePalace x, int... want) {
        for (int b = 0; b < want.length; b++) {
            due(promise, "grains of " + b + ", " + when, x.blockOf(b, 2), want[b]);
        }
    }

    private static void oneHour() {
        IcePalace x = palace("block 0 grains 20;block 8 grains 10;block 16 grains 10;block 24 grains 10;candle 0 at 0 power 6 lit;cold -3");
        due(13, "hours(1)", x.hours(1), 0);
        grains(13, "drip comes to the lowest cold one, frost mends", x, 17, 10, 11, 11);
        due(13, "air", x.count(4), 1);
        due(13, "hour", x.count(0), 1);
        due(13, "hours(2)", x.hours(2), 0);
        due(13, "hour", x.count(0), 3);
        grains(13, "behind three hours", x, 11, 10, 13, 13);
        due(13, "air", x.count(4), 3);

        IcePalace y = palace("block 0 grains 10;cold 3");
        due(13, "hours(1)", y.hours(1), 0);
        due(13, "drip without a cold block is air", y.count(4), 3);
        y.cold(-5);
        y.hours(1);
        grains(13, "half of the frost", y, 9);
        due(13, "air", y.count(4), 1);
        y.hours(1);
        grains(13, "as AIR has", y, 10);
        due(13, "air", y.count(4), 0);
        y.cold(20);
        due(13, "it loses what it has at most", y.hours(1), 1);
        due(13, "air", y.count(4), 10);
        due(13, "no rubble of what melts", y.count(5), 0);
        due(13, "none left", y.hours(48), 0);
        all(13, "hours beyond", BEYOND, y.hours(0), y.hours(49), y.hours(-1), y.hours(MIN), y.hours(MAX));

        // Block 0 is cold and asks AIR ahead of what block 1 gives to it; block 2 asks behind it.
        IcePalace z = palace("block 7;block 0 grains 30;block 6;candle 0 at 0 power 12 lit;cold -4");
        z.hours(1);
        grains(13, "by numbers", z, 20, 22, 21);
        due(13, "air", z.count(4), 7);

        // Columns 2 and 3 drip, each for itself; in column 3 block 0 is the only cold one.
        IcePalace two = palace("block 11 grains 9;block 3 grains 30;block 2 grains 30;block 26;block 10;candle 0 at 3 power 12 lit;cold -7");
        two.hours(1);
        grains(13, "of each column", two, 11, 25, 30, 0, 21);
        due(13, "air", two.count(4), 0);
        due(13, "rubble of what frost had mended", two.count(5), 22);
        two.candle(0, 0, 2);
        two.hours(1);
        grains(13, "of each column", two, 11, 25, 25, 0, 23);
        due(13, "air", two.count(4), 3);

        IcePalace most = palace("block 0 grains 40;pillar 40 grains 99;block 7 grains 98;candle 0 at 0 power 30 lit;cold -20");
        most.take(1, 8);
        most.candle(0, 1, 30);
        most.hours(1);
        grains(13, "warm 10, warm -5 with 99 already, far and cold", most, 30, 99, 99);
        due(13, "what is above 99 is air", most.count(4), 5 + 5 - 1);
    }

    private static void falls() {
        IcePalace x = palace("block 0 grains 3;block 8 grains 5;icicle 9 grains 2;beam 17 grains 4;block 16 grains 3;cold 0;candle 0 at 0 power 3 lit");
        due(13, "what stood on it falls", x.hours(1), 5);
        due(13, "air of what melted", x.count(4), 3 + 1 + 1 + 1);
        due(13, "rubble of what fell", x.count(5), 5 - 1 + 2 - 1 + 4 + 3 - 1);
        due(13, "those GONE", x.count(2), 5);

        IcePalace y = palace("block 0 grains 5;block 8 grains 21;beam 9 grains 7;block 1 grains 2;icicle 3");
        due(16, "weak()", y.weak(), 1);
        due(14, "fall()", y.fall(), 2);
        due(14, "it and what it bore", y.ahead(0, 4), 3);
        due(14, "rubble", y.count(5), 26);
        due(14, "no hour", y.count(0), 0);
        due(14, "fall() again", y.fall(), 0);
        due(14, "others stand", y.on(9), 2);

        due(16, "as much as it bears", palace("block 0 grains 5;block 8 grains 20").weak(), 0);
        due(16, "a throne bears 20 more", palace("throne 0 grains 5;block 8 grains 40").weak(), 0);
        due(16, "a throne", palace("throne 0 grains 5;block 8 grains 41").weak(), 1);
        due(16, "a pillar", palace("pillar 0 grains 5;block 8 grains 60").weak(), 0);
        due(16, "a pillar", palace("pillar 0 grains 5;block 8 grains 61").weak(), 1);
        due(16, "a lintel", palace("lintel 0 grains 5;block 8 grains 40").weak(), 0);
        due(16, "a lintel", palace("lintel 0 grains 5;block 8 grains 41").weak(), 1);
        due(16, "several", palace("block 0 grains 1;arch 8 grains 2;beam 16 grains 3;icicle 24 grains 13;block 32 grains 53").weak(), 15);
        IcePalace all = palace("block 0 grains 1;block 8 grains 5");
        all.fall();
        due(16, "GONE ones are not weak", all.weak(), 0);
    }

    private static void lastHours() {
        IcePalace x = aged(9903);
        due(13, "hour", x.count(0), 9903);
        x.block(BLOCK, 0, 9);
        x.block(BLOCK, 9, 9);
        x.cold(-5);
        due(17, "ahead(96, 0) from 9903", x.ahead(96, 0), 1);
        due(18, "goes(1) from 9903", x.goes(1), 1);
        due(19, "holds() from 9903", x.holds(), 0);
        due(23, "mend(1) from 9903", x.mend(1), 0);
        due(24, "whose(0) from 9903", x.whose(0), NONE);
        x.fall();
        x.hours(1);
        due(17, "ahead(96, 0) from 9904", x.ahead(96, 0), STATE);
        due(17, "ahead(95, 0) from 9904", x.ahead(95, 0), 0);
        due(18, "goes(0) from 9904", x.goes(0), STATE);
        due(18, "goes(2), BEYOND first", x.goes(2), BEYOND);
        due(19, "holds() from 9904", x.holds(), STATE);
        due(23, "mend(1) from 9904", x.mend(1), STATE);
        due(23, "mend(0), BEYOND first", x.mend(0), BEYOND);
        due(24, "whose(0) from 9904", x.whose(0), STATE);
        x.hours(48);
        due(20, "deal(47) from 9952", x.deal(47), 0);
        due(20, "deal(48) from 9952", x.deal(48), STATE);
        due(20, "deal(49), BEYOND first", x.deal(49), BEYOND);
        due(21, "bears(47) from 9952", x.bears(47), 0);
        due(21, "bears(48) from 9952", x.bears(48), STATE);
        due(22, "needs(0, 47) from 9952", x.needs(0, 47), 0);
        due(22, "needs(0, 48) from 9952", x.needs(0, 48), STATE);
        due(22, "needs(0, 49), BEYOND first", x.needs(0, 49), BEYOND);
        x.hours(24);
        due(25, "drawing(0, 23, 9) from 9976", x.drawing(0, 23, 9), 2100);
        due(25, "drawing(0, 24, 9) from 9976", x.drawing(0, 24, 9), STATE);
        due(13, "hours(24) from 9976", x.hours(24), STATE);
        due(13, "hours(49), BEYOND first", x.hours(49), BEYOND);
        due(13, "a finding lets no hour go", x.count(0), 9976);
        due(13, "hours(23)", x.hours(23), 0);
        due(13, "hour", x.count(0), 9999);
        due(13, "hours(1) from 9999", x.hours(1), STATE);
        due(17, "ahead(0, 1) from 9999", x.ahead(0, 1), 9);
        due(17, "ahead(1, 1) from 9999", x.ahead(1, 1), STATE);
        due(20, "deal(1) from 9999", x.deal(1), STATE);
    }

    private static void ahead() {
        IcePalace x = palace("block 0 grains 10;block 8 grains 9;block 2 grains 30;icicle 40 grains 4;cold 3");
        due(17, "now", x.ahead(0, 0), 0);
        due(17, "one that falls at once", x.ahead(1, 0), 1);
        due(17, "grains now", x.ahead(0, 1), 53);
        due(17, "grains then", x.ahead(1, 1), 7 + 6 + 27);
        due(17, "air then", x.ahead(1, 2), 12);
        due(17, "rubble then", x.ahead(1, 3), 1);
        due(17, "rubble behind four", x.ahead(4, 3), 1);
        due(17, "GONE behind three", x.ahead(3, 4), 10);
        due(17, "GONE behind four", x.ahead(4, 4), 11);
        due(17, "GONE behind 96", x.ahead(96, 4), 15);
        due(17, "GONE behind 96", x.ahead(96, 0), 4);
        due(17, "air behind 96", x.ahead(96, 2), 52);
        all(17, "ahead beyond", BEYOND, x.ahead(-1, 0), x.ahead(97, 0), x.ahead(0, 5), x.ahead(0, -1), x.ahead(MIN, 0),
            x.ahead(MAX, 0), x.ahead(0, MIN), x.ahead(0, MAX));
        due(17, "nothing changes", x.count(3) + 100 * x.count(0) + 10000 * x.count(4) + 100000 * x.count(2), 53);
        due(18, "goes(0)", x.goes(0), 4);
        due(18, "goes(1)", x.goes(1), 3);
        due(18, "goes(3)", x.goes(3), 1);
        due(19, "holds()", x.holds(), 0);
        x.fall();
        due(17, "those GONE now are in the set", x.ahead(0, 4), 8);
        due(17, "but not counted", x.ahead(3, 0), 1);
        due(18, "goes of a GONE one", x.goes(3), STATE);
        due(19, "holds() with one GONE", x.holds(), 2);
        all(18, "goes beyond", BEYOND, x.goes(4), x.goes(-1), x.goes(MIN), x.goes(MAX));

        IcePalace y = palace("block 0 grains 96;cold 1");
        due(18, "goes in 96", y.goes(0), 96);
        due(19, "holds 95", y.holds(), 95);
        y.water(0, 1);
        due(19, "no water where it is warm", y.holds(), 95);
        y.cold(-1);
        y.water(0, 1);
        y.cold(1);
        due(18, "goes in 97", y.goes(0), NONE);
        due(19, "holds 96 at most", y.holds(), 96);
        due(19, "holds() without blocks", new IcePalace().holds(), 96);
    }

    private static void choices() {
        deals();
        IcePalace x = palace("block 0 grains 10;block 7 grains 10");
        due(21, "bears(1)", x.bears(1), 9);
        due(21, "bears(3)", x.bears(3), 3);
        due(21, "bears(48)", x.bears(48), 0);
        due(21, "bears changes nothing", x.cold(-5), -5);
        all(21, "bears beyond", BEYOND, x.bears(0), x.bears(49), x.bears(-1), x.bears(MIN), x.bears(MAX));
        due(21, "bears 20", palace("block 0 grains 99").bears(4), 20);
        due(21, "bears -20", palace("block 0 grains 11;candle 0 at 0 power 30 lit").bears(1), -20);
        due(21, "bears none", palace("block 0 grains 10;candle 0 at 0 power 30 lit").bears(1), NONE);

        needed();
        mended();
        blamed();
    }

    private static void deals() {
        IcePalace x = palace("block 0 grains 10;candle 0 at 0 power 8;candle 1 at 47 power 9;candle 2 at 47 power 9");
        due(20, "deal(3)", x.deal(3), 7);
        due(20, "deal(4)", x.deal(4), 6);
        x.lit(3, true);
        x.candle(3, 1, 30);
        due(20, "one that is lit now is put out", x.deal(4), 6);
        due(20, "deal lights none", x.light(), 30);
        all(20, "deal beyond", BEYOND, x.deal(0), x.deal(49), x.deal(-1), x.deal(MIN), x.deal(MAX));
        due(20, "of several the least", palace("block 0 grains 6;candle 4 at 0 power 9;candle 1 at 0 power 9;cold -8").deal(5), 2);
        due(20, "the most light, not the most candles",
            palace("block 0 grains 9;candle 0 at 0 power 4;candle 1 at 0 power 4;candle 2 at 0 power 9").deal(2), 4);
        due(20, "without power", palace("block 0;candle 0 at 0;candle 1 at 0").deal(48), 0);
        due(20, "none", palace("block 8").deal(1), NONE);
        due(20, "nobody", palace("block 0 grains 1;cold 1").deal(1), NONE);
    }

    private static void needed() {
        IcePalace x = palace("block 0 grains 10;cold 3");
        due(22, "needs(0, 3)", x.needs(0, 3), 0);
        due(22, "needs(0, 4)", x.needs(0, 4), 3);
        due(22, "needs(0, 32)", x.needs(0, 32), 87);
        due(22, "needs(0, 33)", x.needs(0, 33), NONE);
        all(22, "needs beyond", BEYOND, x.needs(1, 1), x.needs(-1, 1), x.needs(0, 0), x.needs(0, 49), x.needs(MIN, 1),
            x.needs(MAX, 1), x.needs(0, MIN), x.needs(0, MAX));
        due(22, "needs changes nothing", x.count(3), 10);
        due(22, "up to 99", palace("block 0 grains 10;cold 7").needs(0, 14), 89);
        due(22, "up to 99 from 99", palace("block 0 grains 99;cold 7").needs(0, 14), 0);
        due(22, "another one goes", palace("block 0 grains 10;block 8 grains 3;cold 3").needs(0, 1), NONE);
        due(22, "it bears more", palace("block 0 grains 2;block 8 grains 31").needs(0, 5), 6);
        IcePalace y = palace("block 8;block 0");
        y.take(1, 1);
        y.fall();
        due(22, "a GONE one", y.needs(0, 1), STATE);
        due(22, "BEYOND ahead of it", y.needs(0, 0), BEYOND);
    }

    private static void mended() {
        IcePalace x = palace("block 0 grains 20;block 1 grains 10;cold 2");
        due(23, "mend(4)", x.mend(4), 1);
        x.cold(-2);
        due(23, "of several the least", x.mend(4), 0);
        all(23, "mend beyond", BEYOND, x.mend(0), x.mend(99), x.mend(-1), x.mend(MIN), x.mend(MAX));
        due(23, "mend changes nothing", x.count(3), 30);
        due(23, "99 in all at most", palace("block 8 grains 50;block 0 grains 25").mend(98), 0);
        due(23, "too heavy", palace("block 8 grains 50;block 0 grains 24").mend(98), 1);
        IcePalace y = palace("block 8 grains 50;block 0 grains 24");
        y.take(1, 1);
        y.fall();
        due(23, "a GONE one is passed", y.mend(1), 1);
        due(23, "no blocks", new IcePalace().mend(1), NONE);
        y.take(1, 9);
        y.fall();
        due(23, "all GONE", y.mend(98), NONE);
    }

    private static void blamed() {
        IcePalace x = palace("block 0 grains 20;candle 0 at 0 power 3 lit;candle 1 at 0 power 5 lit;candle 2 at 0 power 30;cold 0");
        due(24, "whose(0)", x.whose(0), 1);
        x.candle(0, 1, 5);
        due(24, "of several the least", x.whose(0), 0);
        x.candle(0, 1, 6);
        x.candle(4, 1, 20);
        x.lit(4, true);
        due(24, "another", x.whose(0), 4);
        due(24, "whose puts none out", x.light(), 31);
        all(24, "whose beyond", BEYOND, x.whose(1), x.whose(-1), x.whose(MIN), x.whose(MAX));
        due(24, "97 if it isn't by then",
            palace("block 0 grains 96;candle 0 at 0 power 1 lit;candle 1 at 0 power 2 lit;cold -1").whose(0), 1);
        due(24, "96 and 97", palace("block 0 grains 96;candle 0 at 47 lit;candle 1 at 0 power 1 lit;cold 0").whose(0), 1);
        due(24, "one without power", palace("block 0;candle 3 at 0 lit").whose(0), 3);
        due(24, "none is lit", palace("block 0;candle 3 at 0 power 9").whose(0), NONE);
        IcePalace y = palace("block 8;candle 3 at 0 lit");
        y.fall();
        due(24, "a GONE one", y.whose(0), STATE);
    }

    private static void drawing() {
        IcePalace x = palace("block 0 grains 10");
        due(25, "one cold", x.drawing(0, 1, 7), 123);
        due(25, "no change", x.drawing(0, 1, 10), 2100);
        due(25, "GONE", x.drawing(0, 1, 0), 1130);
        due(25, "two hours", x.drawing(0, 2, 2), 124);
        due(25, "24 hours", x.drawing(0, 24, 0), 2021);
        due(25, "no such", x.drawing(0, 1, 11), NONE);
        due(25, "no such", x.drawing(0, 2, 7), NONE);
        all(25, "drawing beyond", BEYOND, x.drawing(1, 1, 1), x.drawing(-1, 1, 1), x.drawing(0, 0, 1), x.drawing(0, 25, 1),
            x.drawing(0, 1, -1), x.drawing(0, 1, 100), x.drawing(MIN, 1, 1), x.drawing(MAX, 1, 1), x.drawing(0, MIN, 1),
            x.drawing(0, MAX, 1), x.drawing(0, 1, MIN), x.drawing(0, 1, MAX));
        due(25, "cold is as it was", x.cold(-5), -5);
        due(25, "full", palace("block 0 grains 99").drawing(0, 1, 99), 2100);
        IcePalace y = palace("block 8");
        due(25, "one that falls with any cold", y.drawing(0, 1, 0), 4100);
        y.fall();
        due(25, "a GONE one", y.drawing(0, 1, 0), STATE);
        due(25, "BEYOND ahead of it", y.drawing(0, 0, 0), BEYOND);
        IcePalace z = palace("block 0 grains 10;cold 6");
        z.hours(1);
        // AIR has 6: each cold below -1 brings half of it, 6 at most.
        due(25, "by frost", z.drawing(0, 1, 10), 900);
        due(25, "by frost", z.drawing(0, 1, 5), 217);
    }

    private static void building() {
        IcePalace x = palace("block 8;block 0;block 1");
        int[] order = {1, 0, 2};
        for (int i = 0; i < 3; i++) {
            due(26, "order(" + i + ")", x.order(i), order[i]);
        }
        due(26, "it has not so many", x.order(3), NONE);
        due(26, "order(15)", x.order(15), NONE);
        all(26, "order beyond", BEYOND, x.order(-1), x.order(16), x.order(MIN), x.order(MAX));
        IcePalace y = palace("icicle 9;arch 17;block 16;block 8;block 0;block 18;block 10;block 2");
        int[] ranks = {4, 3, 2, 7, 6, 5, 1, 0};
        for (int i = 0; i < 8; i++) {
            due(26, "around an arch order(" + i + ")", y.order(i), ranks[i]);
        }
        due(27, "around an arch steps(1)", y.steps(1), 8);
        due(27, "around an arch steps(2)", y.steps(2), 5);
        due(27, "around an arch steps(8)", y.steps(8), 5);
        y.take(7, 3);
        due(26, "no such order", y.order(0), NONE);
        due(27, "they can't be there", y.steps(8), NONE);
        y.fall();
        due(26, "of those left", y.order(0), 4);
        due(26, "of those left", y.order(3), 7);
        due(26, "no more are left", y.order(4), NONE);
        due(27, "of those left", y.steps(2), 3);

        IcePalace z = palace("block 0;block 8;block 16;block 1;block 2");
        due(27, "steps(1)", z.steps(1), 5);
        due(27, "steps(2), by numbers", z.steps(2), 3);
        due(27, "steps(3)", z.steps(3), 3);
        due(27, "nothing comes on what comes in the same step", z.steps(8), 3);
        all(27, "steps beyond", BEYOND, z.steps(0), z.steps(9), z.steps(-1), z.steps(MIN), z.steps(MAX));
        due(27, "by numbers, not by need", palace("block 1;block 2;block 0;block 8").steps(2), 3);
        due(27, "by numbers, not by need", palace("block 1;block 2;block 3;block 4;block 0;block 8").steps(2), 4);
        due(27, "no blocks", new IcePalace().steps(8), 0);
        due(26, "no blocks", new IcePalace().order(0), NONE);
        IcePalace all = new IcePalace();
        for (int b = 0; b < 16; b++) {
            all.block(BEAM, b < 15 ? 8 + (14 - b) % 8 + 8 * ((14 - b) / 8) : 0, 9);
        }
        due(26, "of sixteen the first", all.order(0), 15);
        due(27, "of sixteen", all.steps(1), 16);
        due(26, "of sixteen the last", all.order(15) >= 0 ? 1 : 0, 1);
    }

    private static void dancing() {
        IcePalace x = palace("block 0 grains 10;block 1 grains 9;block 2 grains 20;block 47 grains 10");
        x.fall();
        due(28, "shakes(2)", x.shakes(2), 5);
        due(28, "shakes(3)", x.shakes(3), 2);
        due(28, "shakes(4)", x.shakes(4), 4);
        due(28, "shakes(5), GONE ones not", x.shakes(5), 5);
        due(28, "shakes(9)", x.shakes(9), 2);
        due(28, "shakes(7)", x.shakes(7), 0);
        all(28, "shakes beyond", BEYOND, x.shakes(1), x.shakes(10), x.shakes(0), x.shakes(-1), x.shakes(MIN), x.shakes(MAX));
        due(29, "dance(5)", x.dance(5), 0);
        grains(29, "danced", x, 9, 9, 19, 0);
        due(29, "air", x.count(4), 2);
        due(29, "no hour", x.count(0), 0);
        all(29, "dance beyond", BEYOND, x.dance(1), x.dance(10), x.dance(0), x.dance(MIN), x.dance(MAX));

        IcePalace y = palace("block 0 grains 5;block 8 grains 20");
        due(29, "it falls", y.dance(5), 2);
        due(29, "rubble", y.count(5), 23);
        due(29, "air", y.count(4), 2);
        due(29, "nobody left", y.dance(5), 0);
        due(29, "a fall with none shaken", palace("block 8 grains 5").dance(2), 1);

        due(30, "tune()", palace("block 0 grains 6;block 8 grains 24").tune(), 4);
        due(30, "of several the least", palace("block 0 grains 9").tune(), 2);
        due(30, "no blocks", new IcePalace().tune(), 2);
        IcePalace z = palace("block 0 grains 6;block 8 grains 24;block 2 grains 12;block 10 grains 48;block 4 grains 30;block 12 grains 99");
        due(30, "tune()", z.tune(), 5);
        due(30, "nothing changes", z.count(3), 219);
        IcePalace last = new IcePalace();
        int[] bearers = {6, 20, 7, 8};
        for (int i = 0; i < 4; i++) {
            last.block(BLOCK, 2 * i, bearers[i]);
            last.block(BLOCK, 2 * i + 8, 4 * bearers[i]);
        }
        due(30, "the last tune", last.tune(), 9);
    }

    private static void tapes() {
        IcePalace w = new IcePalace();
        int[] powers = {1, 2, 4, 8, 16, 30};
        for (int c = 0; c < 6; c++) {
            w.candle(c, 1, powers[c]);
        }
        due(31, "wind(1): candle 2", w.wind(1), 4);
        due(46, "z", w.count(7), 1103527590);
        due(31, "wind(2): candles 2 and 0", w.wind(2), 1);
        due(32, "seed(1)", w.seed(1) != 1 ? 1 : 0, 1);
        w.lit(0, false);
        due(31, "wind(20)", w.wind(20), 49);
        due(32, "seed(-7)", w.seed(-7), -471937619);
        for (int c = 0; c < 6; c++) {
            w.lit(c, false);
        }
        due(31, "wind(3): candles 3, 5 and 4", w.wind(3), 54);
        due(32, "seed(MAX)", w.seed(MAX), 596901612);
        due(31, "wind(3): 5, 2 and 5", w.wind(3), 58);
        all(31, "wind beyond", BEYOND, w.wind(0), w.wind(21), w.wind(-1), w.wind(MIN), w.wind(MAX));
        due(32, "seed below the findings", w.seed(-1000001), -1501140182);
        due(32, "that is no finding", w.seed(0), -1000001);
        due(32, "nor is it counted", w.status(-1), 5);

        IcePalace x = new IcePalace();
        for (int i = 1; i < 30; i++) {
            due(33, "feed(.., 4)", x.feed(0x20202020, 4), 4 * i);
        }
        due(33, "feed(.., 3)", x.feed(-1, 3), 119);
        due(33, "feed(.., 2)", x.feed(0, 2), FULL);
        due(33, "feed(.., 1)", x.feed(0, 1), 120);
        due(33, "feed(.., 1)", x.feed(0, 1), FULL);
        all(33, "feed beyond", BEYOND, x.feed(0, 0), x.feed(0, 5), x.feed(0, -1), x.feed(0, MIN), x.feed(0, MAX));
        due(46, "bytes", x.count(6), 120);
        due(34, "wipe()", x.wipe(), 120);
        due(34, "wipe()", x.wipe(), 0);
        due(46, "bytes", x.count(6), 0);
        due(33, "the highest of these first", x.feed(0x7a636f6c, 3), 3);
        due(33, "the highest of these first", x.feed(0x7a7a6437, 2), 5);
        due(35, "cold7", x.text(), 1);
        due(10, "cold", x.cold(0), 7);
    }

    private static void texts() {
        IcePalace x = new IcePalace();
        due(35, "items", tell(x, "block 0;arch 1 grains 7;beam 2;throne 3;pillar 4 grains 99;lintel 5;icicle 6 grains 1;cold -20"), 8);
        int[] kinds = {BLOCK, ARCH, BEAM, THRONE, PILLAR, LINTEL, ICICLE};
        int[] grains = {20, 7, 20, 20, 99, 20, 1};
        for (int b = 0; b < 7; b++) {
            due(35, "kind of " + b, x.blockOf(b, 0), kinds[b]);
            due(35, "cell of " + b, x.blockOf(b, 1), b);
            due(35, "grains of " + b, x.blockOf(b, 2), grains[b]);
        }
        due(35, "cold", x.cold(0), -20);
        due(35, "the tape is empty", x.count(6), 0);
        due(35, "candle", tell(x, "candle 5 at 47 power 30 lit"), 1);
        due(35, "its cell", x.candle(5, 0, 1), 47);
        due(35, "it is lit", x.light(), 30);
        due(35, "candle again", tell(x, "candle 5 at 2"), 1);
        due(35, "its cell", x.candle(5, 0, 1), 2);
        due(35, "it isn't lit", x.lit(5, false), 0);
        due(35, "its power is not told", x.candle(5, 1, 3), 30);
        due(35, "lit without power", tell(x, "candle 5 at 0 lit"), 1);
        due(35, "light", x.light(), 3);
        due(35, "power 0", tell(x, "candle 5 at 0 power 0 lit"), 1);
        due(35, "light", x.light(), 0);
        due(35, "no blanks, many blanks", tell(x, "  cold-3;candle1at07power030lit  ;   cold - 0004   "), 3);
        due(35, "item by item, the last counts", x.cold(0), -4);
        due(35, "power", x.candle(1, 1, 0), 30);
        due(35, "cold -0", tell(x, "cold -0"), 1);
        due(35, "cold", x.cold(3), 0);
        due(35, "cold 20", tell(x, "cold 20"), 1);
        due(35, "cold", x.cold(3), 20);
        due(35, "a cell of a GONE one", tell(x, "block 46"), 1);
        x.fall();
        due(35, "a cell of a GONE one", tell(x, "block 46"), 1);
        due(35, "its number", x.on(46), 8);
        due(35, "it is no finding", x.status(-1), 0);
    }

    private static void fault(String text, int place) {
        IcePalace x = new IcePalace();
        x.block(BLOCK, 9, 5);
        due(35, "'" + text + "'", tell(x, text), -1 - place);
        due(35, "the tape is empty", x.count(6), 0);
        due(35, "nothing else changes", x.count(1), 1);
        due(35, "cold is as it was", x.cold(0), -5);
        due(35, "candles are as they were", x.candle(0, 0, 0) + x.candle(0, 1, 0) + x.lit(0, false), 0);
        due(35, "no finding", x.status(-1), 0);
    }

    private static void textFaults() {
        fault("", 0);
        fault("   ", 3);
        fault("bloc 1", 0);
        fault("blocks 1", 0);
        fault("Block 1", 0);
        fault(" 1", 1);
        fault("mold 3", 0);
        fault("coldz 3", 0);
        fault("acold 3", 0);
        fault("cold 3" + (char) 0, 6);
        fault("cold 3`", 6);
        fault("cold 3/", 6);
        fault("cold 3:", 6);
        fault("cold 3{", 6);
        fault(";", 0);
        fault("block", 5);
        fault("block  ", 7);
        fault("block 48", 6);
        fault("block 9", 6);
        fault("block -1", 6);
        fault("block 1000", 6);
        fault("block 4294967296", 6);
        fault("block 1 grains", 14);
        fault("block 1 grains 0", 15);
        fault("block 1 grains 100", 15);
        fault("block 1 grain 5", 8);
        fault("block 1 5", 8);
        fault("block 1 grains 5 grains 5", 17);
        fault("block 1 block 2", 8);
        fault("block 1;", 8);
        fault("block 1;  ", 10);
        fault("block 1;;", 8);
        fault("block 1;block 1", 14);
        fault("block 1;cold 3;candle 0 at 9 power 9 lit;arch 9", 46);
        fault("candle", 6);
        fault("candle 6 at 0", 7);
        fault("candle 0", 8);
        fault("candle 0 0", 9);
        fault("candle 0 at", 11);
        fault("candle 0 at 48", 12);
        fault("candle 0 at 1 power", 19);
        fault("candle 0 at 1 power 31", 20);
        fault("candle 0 at 1 lit power 3", 18);
        fault("candle 0 at 1 lit lit", 18);
        fault("candle 0 at 1 unlit", 14);
        fault("candle 0 at 1 litx", 14);
        fault("cold", 4);
        fault("cold -", 6);
        fault("cold 21", 5);
        fault("cold -21", 6);
        fault("cold --1", 6);
        fault("cold lit", 5);
        fault("cold 3 -", 7);
        fault("cold 3\t", 6);
        fault("cold\n3", 4);
        fault("cold 3 " + (char) 233, 7);
        fault((char) 0 + "cold 3", 0);
        fault("cold 3,cold 4", 6);
        IcePalace x = new IcePalace();
        for (int b = 0; b < 15; b++) {
            x.block(BLOCK, b, 5);
        }
        due(35, "the word of a 17th", tell(x, "block 15; arch x"), -11);
        due(35, "not even one came", x.count(1), 15);
        due(35, "the 16th", tell(x, "cold 3;block 15"), 2);
        due(35, "the word of a 17th", tell(x, "cold 4;block 48"), -8);
        due(35, "cold is as it was", x.cold(0), 3);
    }

    private static void spots() {
        IcePalace x = palace("block 0;arch 1;beam 2;throne 3;pillar 4;lintel 5;icicle 6;block 47");
        boolean[][] under = new boolean[7][7];
        for (int k = 0; k < 7; k++) {
            under[k][k] = true;
            under[k][BLOCK] = true;
        }
        under[THRONE][ARCH] = true;
        under[LINTEL][BEAM] = true;
        for (int b = 0; b < 7; b++) {
            due(36, "hold(" + b + ", " + b + ")", x.hold(b, b), 1);
            for (int kind = 0; kind < 7; kind++) {
                due(37, "as(" + b + ", " + kind + ")", x.as(b, kind), under[b][kind] ? b : KIND);
            }
        }
        due(36, "hold(9, 3)", x.hold(9, 3), 1);
        due(37, "as(9, 1)", x.as(9, ARCH), 3);
        x.turn(3, PILLAR);
        due(37, "as(9, 1), turned", x.as(9, ARCH), KIND);
        due(36, "hold(9, -1)", x.hold(9, -1), 1);
        due(37, "as(9, 0)", x.as(9, 0), MISSING);
        due(37, "MISSING ahead of KIND", x.as(8, THRONE), MISSING);
        all(36, "hold beyond", BEYOND, x.hold(10, 0), x.hold(-1, 0), x.hold(0, 8), x.hold(0, -2), x.hold(MIN, 0),
            x.hold(MAX, 0), x.hold(0, MIN), x.hold(0, MAX));
        all(37, "as beyond", BEYOND, x.as(10, 0), x.as(-1, 0), x.as(9, 7), x.as(9, -1), x.as(MIN, 0), x.as(MAX, 0),
            x.as(0, MIN), x.as(0, MAX));
        x.fall();
        due(36, "a GONE one", x.hold(8, 7), 1);
        due(37, "a GONE one", x.as(8, BLOCK), 7);
    }

    private static void sheets() {
        IcePalace x = new IcePalace();
        due(38, "sheet(0, 8, 40)", x.sheet(0, 8, 40), 40);
        due(38, "sheet(3, 16, 0)", x.sheet(3, 16, 0), 0);
        due(38, "sheet(1, 32, 5)", x.sheet(1, 32, 5), 5);
        all(38, "sheet beyond", BEYOND, x.sheet(4, 8, 1), x.sheet(-1, 8, 1), x.sheet(0, 7, 1), x.sheet(0, 64, 1),
            x.sheet(0, -8, 1), x.sheet(0, 24, 1), x.sheet(0, 8, 41), x.sheet(0, 0, 41), x.sheet(MIN, 8, 1),
            x.sheet(MAX, 8, 1), x.sheet(0, MIN, 1), x.sheet(0, MAX, 1), x.sheet(0, 8, MAX));
        all(38, "sheet of a wrong size", SIZE, x.sheet(0, 8, -1), x.sheet(0, 0, -1), x.sheet(2, 32, MIN));
        due(38, "BEYOND ahead of SIZE", x.sheet(0, 9, -1), BEYOND);
        due(38, "findings lay nothing", x.write(0, 39, 1), 1);
        due(38, "a missing one", x.sheet(1, 0, 40), 0);
        due(39, "write to a missing one", x.write(1, 0, 1), MISSING);
        due(39, "MISSING ahead of BEYOND", x.write(1, 40, 1), MISSING);
        due(39, "write(0, 0, 5)", x.write(0, 0, 5), 1);
        all(39, "write beyond", BEYOND, x.write(4, 0, 1), x.write(-1, 0, 1), x.write(0, 40, 1), x.write(0, -1, 1),
            x.write(3, 0, 1), x.write(MIN, 0, 1), x.write(MAX, 0, 1), x.write(0, MIN, 1), x.write(0, MAX, 1));
        lowestBits();
        copies();
    }

    /** What a sheet of some bits makes of a number shows in the GRAINS that it loads. */
    private static void lowestBits() {
        int[][] cases = {{8, 300, 44}, {8, 255, -1}, {8, 127, -1}, {8, 99, 99}, {8, -255, 1}, {16, 65536 + 7, 7},
            {16, 65535, -1}, {16, 300, -1}, {16, -65535, 1}, {32, 65536 + 7, -1}, {32, 256 + 7, -1}, {32, 8, 8}};
        for (int[] c : cases) {
            IcePalace x = palace("block 0 grains 50");
            x.sheet(2, c[0], 1);
            due(39, "write(2, 0, " + c[1] + ")", x.write(2, 0, c[1]), 1);
            due(41, "load of " + c[1] + " in " + c[0] + " bits", x.load(2), c[2] > 0 ? 1 : 0);
            due(39, "grains then", x.blockOf(0, 2), c[2] > 0 ? c[2] : 50);
        }
        IcePalace y = palace("block 0");
        y.sheet(0, 8, 1);
        y.write(0, 0, 256);
        due(42, "256 of 8 bits is block 0", y.judge(0), 0);
        y.write(0, 0, 255);
        due(42, "255 of 8 bits is -1", y.judge(0), 1);
    }

    /** Sheet s read as GRAINS of eight blocks. */
    private static void row(int promise, String when, IcePalace x, int s, int... want) {
        due(promise, "load, " + when, x.load(s), want.length);
        grains(promise, when, x, want);
    }

    private static void copies() {
        IcePalace x = palace("block 0;block 1;block 2;block 3;block 4;block 5");
        x.sheet(0, 8, 6);
        x.sheet(1, 8, 8);
        x.sheet(2, 16, 6);
        for (int i = 0; i < 6; i++) {
            x.write(0, i, i + 1);
            x.write(1, i, 10 * (i + 1));
        }
        due(40, "copy", x.copy(0, 1, 1, 3, 2), 2);
        row(40, "between two", x, 1, 10, 20, 30, 2, 3, 60);
        due(40, "onto itself, up", x.copy(0, 0, 0, 2, 4), 4);
        row(40, "as they all were", x, 0, 1, 2, 1, 2, 3, 4);
        due(40, "onto itself, down", x.copy(0, 2, 0, 1, 4), 4);
        row(40, "as they all were", x, 0, 1, 1, 2, 3, 4, 4);
        due(40, "none", x.copy(0, 6, 1, 8, 0), 0);
        due(40, "all", x.copy(0, 0, 1, 0, 6), 6);
        row(40, "all", x, 1, 1, 1, 2, 3, 4, 4);
        all(40, "copy beyond", BEYOND, x.copy(4, 0, 0, 0, 1), x.copy(0, 0, 4, 0, 1), x.copy(-1, 0, 0, 0, 1),
            x.copy(0, 0, -1, 0, 1), x.copy(0, -1, 1, 0, 1), x.copy(0, 0, 1, -1, 1), x.copy(0, 0, 1, 0, -1),
            x.copy(0, 0, 1, 0, 7), x.copy(0, 6, 1, 0, 1), x.copy(1, 0, 0, 1, 6), x.copy(0, 7, 1, 0, 0),
            x.copy(0, 0, 1, 9, 0), x.copy(0, MAX, 1, 0, MAX), x.copy(0, 1, 1, 0, MAX), x.copy(0, 0, 1, MAX, 1),
            x.copy(0, MIN, 1, 0, 1), x.copy(0, 0, 1, MIN, 1), x.copy(0, 0, 1, 0, MIN), x.copy(MIN, 0, 1, 0, 1),
            x.copy(0, 0, MAX, 0, 1));
        due(40, "other bits", x.copy(0, 0, 2, 0, 1), KIND);
        due(40, "KIND ahead of BEYOND", x.copy(0, 0, 2, 0, 9), KIND);
        due(40, "a missing one", x.copy(0, 0, 3, 0, 1), MISSING);
        due(40, "a missing one", x.copy(3, 0, 0, 0, 9), MISSING);
        due(40, "BEYOND ahead of MISSING", x.copy(3, 0, 4, 0, 1), BEYOND);
        due(38, "laid anew all are 0", x.sheet(0, 8, 6), 6);
        due(38, "laid anew all are 0", x.load(0), 0);
    }

    private static void readers() {
        IcePalace x = palace("block 0;block 47;block 8;block 1");
        x.fall();
        write(x, 0, 8, 7, 8, 9, 10, 11);
        due(41, "no block for the fifth", x.load(0), 4);
        grains(41, "a GONE one's is passed", x, 7, 0, 9, 10);
        write(x, 0, 8, 1, 100, 3, 4);
        due(41, "100, though of a GONE one", x.load(0), 1);
        grains(41, "those ahead of it", x, 1, 0, 9, 10);
        write(x, 0, 8, 99, 1, 0, 4);
        due(41, "0", x.load(0), 2);
        grains(41, "those ahead of it", x, 99, 0, 9, 10);
        write(x, 0, 8, -1);
        due(41, "-1", x.load(0), 0);
        write(x, 0, 8);
        due(41, "an empty one", x.load(0), 0);
        all(41, "load beyond", BEYOND, x.load(4), x.load(-1), x.load(MIN), x.load(MAX));
        due(41, "load of a missing one", x.load(3), MISSING);

        write(x, 1, 8, 0, 2, 3);
        due(42, "judge", x.judge(1), 0);
        write(x, 1, 8, 3, 0, 2);
        due(42, "another order", x.judge(1), 0);
        write(x, 1, 8, 2, 0, 3);
        due(42, "it doesn't stand as it comes", x.judge(1), 1);
        write(x, 1, 8, 0, 1, 2, 3);
        due(42, "it is GONE", x.judge(1), 2);
        write(x, 1, 8, 0, 2, 0);
        due(42, "it was told", x.judge(1), 3);
        write(x, 1, 8, 0, 2, 3, 4);
        due(42, "it is no block", x.judge(1), 4);
        write(x, 1, 8, 0, -1);
        due(42, "it is no block", x.judge(1), 2);
        write(x, 1, 8, 0, 2);
        due(42, "not all", x.judge(1), 41);
        write(x, 1, 8);
        due(42, "an empty one", x.judge(1), 41);
        all(42, "judge beyond", BEYOND, x.judge(4), x.judge(-1), x.judge(MIN), x.judge(MAX));
        due(42, "judge of a missing one", x.judge(3), MISSING);
        IcePalace y = new IcePalace();
        write(y, 0, 8);
        due(42, "no blocks", y.judge(0), 0);
    }

    private static void images() {
        IcePalace x = palace("block 0 grains 30;block 8 grains 5;candle 1 at 3 power 4 lit;cold 2");
        x.hold(2, 1);
        x.seed(77);
        x.hours(1);
        due(44, "nothing is kept", x.undo(), NONE);
        due(45, "tear()", x.tear(), 0);
        due(43, "image()", x.image(), 1);
        feed(x, "cold");
        x.sheet(0, 8, 3);
        x.hours(5);
        x.block(ARCH, 20, 9);
        x.fall();
        x.turn(0, PILLAR);
        x.take(0, 5);
        x.candle(1, 0, 9);
        x.candle(1, 1, 9);
        x.lit(1, false);
        x.cold(9);
        x.hold(2, -1);
        x.wind(3);
        x.on(48);
        due(44, "undo()", x.undo(), 1);
        int[] counts = {1, 2, 0, 30, 5, 0, 4, 77};
        for (int what = 0; what < 8; what++) {
            due(43, "count(" + what + ")", x.count(what), counts[what]);
        }
        due(43, "kind", x.blockOf(0, 0), BLOCK);
        due(43, "cells", x.on(0), 0);
        due(43, "cells", x.on(8), 1);
        due(43, "cells", x.on(5) + x.on(20), -2);
        due(43, "the spot", x.as(2, 0), 1);
        due(43, "light", x.light(), 4);
        due(43, "the candle", x.candle(1, 0, 9), 3);
        due(43, "cold", x.cold(8), 2);
        due(43, "sheets are not kept", x.load(0), 0);
        due(44, "undo() takes no finding back", x.status(-1), 2);
        due(44, "it stays", x.undo(), 1);
        due(44, "cold again", x.cold(7), 2);
        x.hours(3);
        due(43, "a later one", x.image(), 1);
        x.hours(1);
        due(44, "the latest counts", x.undo(), 4);
        due(45, "tear()", x.tear(), 1);
        due(45, "tear() again", x.tear(), 0);
        due(44, "nothing is kept", x.undo(), NONE);
        due(44, "nothing changes", x.count(0), 4);
    }

    private static void counts() {
        IcePalace x = palace("block 0 grains 10;block 8 grains 7;block 47 grains 9;block 1 grains 2;cold 2");
        x.hours(1);
        feed(x, "abc");
        int[] counts = {1, 4, 2, 13, 8, 7, 3, 1};
        for (int what = 0; what < 8; what++) {
            due(46, "count(" + what + ")", x.count(what), counts[what]);
        }
        due(47, "no findings yet", x.status(-1), 0);
        all(46, "count beyond", BEYOND, x.count(8), x.count(-1), x.count(MIN), x.count(MAX));
        due(47, "status(-1)", x.status(-1), 4);
        due(47, "status(0)", x.status(0), 4);
        x.block(0, 0, 5);
        x.hold(0, 0);
        x.as(0, ARCH);
        x.as(0, BEAM);
        x.as(1, 0);
        x.undo();
        x.undo();
        x.undo();
        x.sheet(0, 8, -1);
        for (int i = 0; i < 30; i++) {
            x.feed(0, 4);
        }
        int[] found = {4, 1, 2, 3, 1, 1, 1};
        for (int which = 0; which < 7; which++) {
            due(47, "status(" + which + ")", x.status(which), found[which]);
        }
        due(47, "status(-1)", x.status(-1), 13);
        all(47, "status beyond", BEYOND, x.status(7), x.status(-2), x.status(MIN), x.status(MAX));
        due(47, "they are counted", x.status(0), 8);
        due(47, "they are counted", x.status(-1), 17);
    }
}
