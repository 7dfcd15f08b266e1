/** The sentences of promises 26 to 35: building, dancing, texts. */
public final class BuildingEdgeTest extends Edges {
    private BuildingEdgeTest() {
        super("BuildingEdgeTest", 26, 35);
    }

    public static void main(String[] args) {
        BuildingEdgeTest test = new BuildingEdgeTest();
        test.order();
        test.steps();
        test.shakes();
        test.dance();
        test.tune();
        test.wind();
        test.seed();
        test.feed();
        test.wipe();
        test.text();
        test.textFault();
        test.end();
    }

    /** Sixteen blocks, the second eight on the first eight. */
    private static IcePalace twoRows() {
        IcePalace x = new IcePalace();
        for (int b = 0; b < 16; b++) {
            x.block(BLOCK, b, 9);
        }
        return x;
    }

    /** Block 0 is GONE, the others stand on one another, the last number lowest. */
    private static IcePalace oneGone() {
        IcePalace x = palace("block 47;block 16;block 8;block 0");
        x.fall();
        return x;
    }

    private void ordered(String what, IcePalace x, int... want) {
        for (int i = 0; i < 16; i++) {
            same("order(" + i + ") of " + what, x.order(i), i < want.length ? want[i] : NONE);
        }
    }

    private void order() {
        says(26, "An order of building in which each BLOCK (not GONE) STANDS as it comes, those ahead of it being there alone:");
        ordered("sixteen, each on the next number's", chain(), 15, 14, 13, 12, 11, 10, 9, 8, 7, 6, 5, 4, 3, 2, 1, 0);
        ordered("those that aren't GONE", oneGone(), 3, 2, 1);
        ordered("an arch behind both beside it", palace("arch 9;block 8;block 10;block 0;block 2"), 3, 1, 4, 2, 0);
        ordered("an icicle behind the beam above it", palace("icicle 9;beam 17;block 16;block 8;block 0"), 4, 3, 2, 1, 0);
        ordered("too heavy a one", palace("block 8 grains 99;block 0 grains 1"), 1, 0);
        says(26, "the first, by numbers:");
        ordered("two rows", twoRows(), 0, 1, 2, 3, 4, 5, 6, 7, 8, 9, 10, 11, 12, 13, 14, 15);
        ordered("a low number as soon as it can", palace("block 8;block 3;block 0;block 2"), 1, 2, 0, 3);
        ordered("a beam by the first of two", palace("beam 9;block 8;block 10;block 0;block 2"), 3, 1, 0, 4, 2);
        says(26, "the i-th BLOCK in it.");
        IcePalace x = palace("block 9;block 1");
        same("the 0th", x.order(0), 1);
        same("the 1st", x.order(1), 0);
        says(26, "BEYOND: i (0 to 15).");
        range("i", 0, 15, i -> twoRows().order(i));
        same("16, though there are none", new IcePalace().order(16), BEYOND);
        says(26, "NONE: there is no such order, or it has not so many.");
        ordered("a palace with one loose", palace("block 0;block 47"));
        ordered("two that bear one another", palace("beam 9;beam 10;block 0"));
        ordered("no blocks", new IcePalace());
        ordered("one", palace("block 0"), 0);
        IcePalace gone = palace("block 47");
        gone.fall();
        ordered("none but a GONE one", gone);
    }

    private void steps() {
        says(27, "Men are m (1 to 8);");
        range("m", 1, 8, m -> twoRows().steps(m));
        int[] wants = {16, 8, 6, 4, 4, 3, 3, 2};
        for (int m = 1; m <= 8; m++) {
            same("two rows by " + m, twoRows().steps(m), wants[m - 1]);
        }
        says(27, "in each step as many BLOCKS as STAND then by those that are there, m at most, come, by numbers:");
        same("none by one of its own step", palace("block 0;block 8;block 16").steps(8), 3);
        same("nor by one of a lower number", palace("block 16;block 8;block 0").steps(8), 3);
        same("by numbers, not by need", palace("block 1;block 2;block 3;block 4;block 0;block 8").steps(2), 4);
        same("those that are needed have low numbers", palace("block 0;block 8;block 1;block 2;block 3;block 4").steps(2), 3);
        same("fewer than m where fewer stand", palace("block 0;block 8;block 9;block 1;block 16;block 17").steps(8), 3);
        same("an arch and an icicle", palace("icicle 1;icicle 9;arch 17;block 16;block 8;block 0;block 18;block 10;block 2").steps(8), 5);
        says(27, "how many steps till all are there.");
        for (int m = 1; m <= 8; m++) {
            same("sixteen, each on the next number's, by " + m, chain().steps(m), 16);
        }
        same("none", new IcePalace().steps(1), 0);
        same("one", palace("block 0").steps(8), 1);
        same("eight", palace("block 0;block 1;block 2;block 3;block 4;block 5;block 6;block 7").steps(8), 1);
        same("GONE ones don't come", oneGone().steps(8), 3);
        says(27, "BEYOND.");
        range("m, though there are none", 1, 8, m -> new IcePalace().steps(m));
        says(27, "NONE: they can't be.");
        same("one is loose", palace("block 0;block 47").steps(1), NONE);
        same("one is loose", palace("block 47").steps(8), NONE);
        IcePalace x = chain();
        x.turn(0, ICICLE);
        same("the last of sixteen is", x.steps(1), NONE);
        x.fall();
        same("that one is GONE", x.steps(1), 15);
    }

    private void shakes() {
        says(28, "A tune of t beats (2 to 9) shakes BLOCKS whose GRAINS are a multiple of it:");
        for (int first = 1; first < 99; first += 14) {
            multiples(first);
        }
        says(28, "the set of those (not GONE).");
        IcePalace x = palace("block 47 grains 8;block 0 grains 8;block 10 grains 8;block 1 grains 9");
        same("those that stand or not", x.shakes(8), 7);
        x.fall();
        same("not the GONE ones", x.shakes(8), 2);
        same("none", x.shakes(5), 0);
        IcePalace all = new IcePalace();
        for (int b = 0; b < 16; b++) {
            all.block(BLOCK, b, 72);
        }
        same("all sixteen", all.shakes(9), 65535);
        same("nothing changes", all.count(3), 16 * 72);
        says(28, "BEYOND.");
        range("t", 2, 9, t -> palace("block 0").shakes(t));
        same("0", palace("block 0").shakes(0), BEYOND);
    }

    /** Sixteen blocks with grains from a number on; of tunes each. */
    private void multiples(int first) {
        IcePalace x = new IcePalace();
        for (int b = 0; b < 16 && first + b <= 99; b++) {
            x.block(BLOCK, b, first + b);
        }
        for (int t = 2; t <= 9; t++) {
            int set = 0;
            for (int many = t; many <= 99; many += t) {
                set |= many >= first && many < first + 16 ? 1 << (many - first) : 0;
            }
            same("shakes(" + t + ") of grains from " + first + " on", x.shakes(t), set);
        }
    }

    private void dance() {
        says(29, "It is danced to a tune: each BLOCK that it shakes loses 1 GRAIN to AIR");
        for (int t = 2; t <= 9; t++) {
            IcePalace x = new IcePalace();
            int[] many = {1, t - 1, t, t + 1, 2 * t, 72, 99};
            int air = 0;
            for (int b = 0; b < many.length; b++) {
                x.block(BLOCK, b, many[b]);
            }
            same("dance(" + t + ")", x.dance(t), 0);
            for (int b = 0; b < many.length; b++) {
                int lost = many[b] % t == 0 ? 1 : 0;
                air += lost;
                same("grains of " + many[b] + " by " + t, x.blockOf(b, 2), many[b] - lost);
            }
            same("air by " + t, x.count(4), air);
        }
        IcePalace two = palace("block 0 grains 8");
        two.dance(8);
        same("7 are no multiple", two.dance(8), 0);
        same("grains", two.blockOf(0, 2), 7);
        same("no hour goes", two.count(0), 0);
        says(29, "(GONE without any),");
        for (int t = 2; t <= 9; t++) {
            IcePalace x = palace("block 0 grains 1;block 1 grains " + t);
            same("the fewest that " + t + " shakes are more than one", x.dance(t), 0);
            same("it has the rest", x.blockOf(1, 2), t - 1);
            same("one grain alone is never shaken", x.blockOf(0, 2), 1);
        }
        IcePalace gone = palace("block 47 grains 8");
        gone.fall();
        same("one that is GONE already", gone.dance(8), 0);
        same("gives no AIR", gone.count(4), 0);
        same("and has no fewer than none", gone.blockOf(0, 2), 0);
        says(29, "then a FALL:");
        IcePalace fall = palace("block 0 grains 5;block 8 grains 19;block 16 grains 1;block 47 grains 7");
        same("the lower one has too few then", fall.dance(5), 4);
        same("rubble", fall.count(5), 4 + 19 + 1 + 7);
        same("air", fall.count(4), 1);
        IcePalace less = palace("block 0 grains 5;block 8 grains 21");
        same("the upper one is too heavy no more", less.dance(7), 0);
        same("nobody is shaken", palace("block 47 grains 5").dance(2), 1);
        says(29, "how many are GONE by it.");
        same("none", new IcePalace().dance(2), 0);
        same("none again", fall.dance(5), 0);
        IcePalace cut = chain();
        cut.turn(10, ICICLE);
        same("eleven, none of them shaken", cut.dance(5), 11);
        says(29, "BEYOND.");
        range("t", 2, 9, t -> palace("block 0").dance(t));
        IcePalace loose = palace("block 47 grains 1");
        same("no FALL by one", loose.dance(1) == BEYOND && loose.dance(10) == BEYOND ? loose.count(2) : -1, 0);
    }

    private void tune() {
        says(30, "The tune (2 to 9) by which fewest would be GONE.");
        same("none would by any", palace("block 0 grains 20").tune(), 2);
        same("no blocks", new IcePalace().tune(), 2);
        same("as many by each", palace("block 47 grains 13").tune(), 2);
        same("not by 2", towers(2).tune(), 3);
        same("not by 2 and 3", towers(2, 3).tune(), 4);
        same("9 alone", towers(8, 20, 6, 7).tune(), 9);
        same("by 2, 3 and 4 several towers, by each other one", towers(8, 20, 6, 7, 9).tune(), 5);
        IcePalace x = towers(6, 9);
        x.block(BLOCK, 16, 1);
        x.block(BLOCK, 7, 18);
        x.block(BLOCK, 15, 72);
        x.block(BLOCK, 47, 5);
        // The first tower is too heavy by now, so it falls by any tune; the others by 2, 3, 6 and 9.
        same("fewest, though some", x.tune(), 4);
        int grains = x.count(3);
        same("the same again", x.tune(), 4);
        same("nothing changes", x.count(3) == grains ? x.count(2) + x.count(4) + x.count(5) : -1, 0);
        same("no finding", x.status(-1), 0);
    }

    /** Towers that bear just as much as they can, so that each falls by a tune that shakes its lower block. */
    private static IcePalace towers(int... grains) {
        IcePalace x = new IcePalace();
        for (int i = 0; i < grains.length; i++) {
            x.block(BLOCK, i, grains[i]);
            x.block(BLOCK, i + 8, 4 * grains[i]);
        }
        return x;
    }

    private void wind() {
        says(31, "n CANDLES (1 to 20; each the rest of a draw by 6) are turned: LIT ones out, others LIT: LIGHT then.");
        int[] seeds = {1, 0, -1, MIN, MAX, 255, 256, -256, 987654321};
        for (int z : seeds) {
            for (int n : new int[] {1, 2, 5, 19, 20}) {
                blown(z, n);
            }
        }
        IcePalace x = palace("candle 2 at 0 power 7 lit;candle 0 at 0 power 3 lit");
        same("candle 2 is turned first, out", x.wind(1), 3);
        x.seed(1);
        same("and LIT again", x.wind(1), 10);
        same("without power", new IcePalace().wind(20), 0);
        says(31, "BEYOND.");
        range("n", 1, 20, n -> new IcePalace().wind(n));
        IcePalace y = new IcePalace();
        same("nothing is drawn", y.wind(21) == BEYOND && y.wind(0) == BEYOND ? y.count(7) : -1, 1);
    }

    /** Draws counted in longs, without an int's sign and wrap-around. */
    private void blown(int seed, int n) {
        IcePalace x = new IcePalace();
        int[] powers = {1, 2, 4, 8, 16, 30};
        int light = 0;
        int lit = 0b100110;
        for (int c = 0; c < 6; c++) {
            x.candle(c, 1, powers[c]);
            x.lit(c, (lit >> c & 1) == 1);
        }
        x.seed(seed);
        long z = seed & 0xffffffffL;
        for (int i = 0; i < n; i++) {
            z = z * 1103515245L + 12345L & 0xffffffffL;
            lit ^= 1 << (int) (z / 256 % 6);
        }
        for (int c = 0; c < 6; c++) {
            light += (lit >> c & 1) * powers[c];
        }
        same("wind(" + n + ") from " + seed, x.wind(n), light);
        same("z then", x.count(7), (int) z);
        same("light() is the same", x.light(), light);
    }

    private void seed() {
        says(32, "z becomes v: what it was.");
        IcePalace x = new IcePalace();
        int was = 1;
        for (int z : new int[] {0, -1, MIN, MAX, BEYOND, SIZE, 7}) {
            same("seed(" + z + ")", x.seed(z), was);
            same("z", x.count(7), z);
            was = z;
        }
        same("no finding", x.status(-1), 0);
    }

    private void feed() {
        says(33, "THE TAPE gets the n lowest bytes of a number behind it, the highest of these first (n 1 to 4):");
        fed("one of four", 0x58585833, 1, "cold 1", "3", 13);
        fed("two of four", 0x58582031, 2, "cold", " 1", 1);
        fed("three of four", 0x58642031, 3, "col", "d 1", 1);
        fed("four", 0x636f6c64, 4, "", "cold", MIN);
        fed("four, the first byte above 127", 0xff6f6c64, 4, "", "a byte that begins no TOKEN", MIN);
        fed("of a negative one", -207, 1, "cold ", "1", 1);
        fed("three of four that begin with a 0", 0x642031, 4, "col", "a byte 0", MIN);
        says(33, "how many it has.");
        IcePalace x = new IcePalace();
        int has = 0;
        for (int n : new int[] {1, 2, 3, 4, 4, 3, 2, 1}) {
            has += n;
            same("with " + n + " more", x.feed(-1, n), has);
            same("bytes", x.count(6), has);
        }
        says(33, "BEYOND: n.");
        range("n", 1, 4, n -> new IcePalace().feed(0, n));
        same("n on a full tape", full(120).feed(0, 5), BEYOND);
        same("n on a full tape", full(120).feed(0, 0), BEYOND);
        same("any number may be fed", new IcePalace().feed(MIN, 4), 4);
        same("any number may be fed", new IcePalace().feed(MAX, 1), 1);
        says(33, "FULL.");
        for (int n = 1; n <= 4; n++) {
            same(n + " more to " + (120 - n), full(120 - n).feed(0, n), 120);
            IcePalace y = full(121 - n);
            same(n + " more to " + (121 - n), y.feed(0, n), FULL);
            same("none of them came", y.count(6), 121 - n);
            same("the rest has room still", n == 1 ? 120 : y.feed(0, n - 1), 120);
        }
        IcePalace again = full(120);
        again.wipe();
        same("room again", again.feed(0, 4), 4);
        again = full(120);
        again.text();
        same("room again", again.feed(0, 4), 4);
    }

    /** Feeds a number behind a text: the COLD that it tells then (MIN: a FAULT). */
    private void fed(String what, int bytes, int n, String before, String meant, int cold) {
        IcePalace x = new IcePalace();
        feed(x, before);
        same(what + " ('" + meant + "')", x.feed(bytes, n), before.length() + n);
        same(what + " is read", x.text() == 1 ? x.cold(0) : MIN, cold);
    }

    private static IcePalace full(int bytes) {
        IcePalace x = new IcePalace();
        feed(x, " ".repeat(bytes));
        return x;
    }

    private void wipe() {
        says(34, "THE TAPE is empty: how many it had.");
        for (int bytes : new int[] {0, 1, 119, 120}) {
            IcePalace x = full(bytes);
            same("wipe() of " + bytes, x.wipe(), bytes);
            same("bytes", x.count(6), 0);
            same("wipe() again", x.wipe(), 0);
            same("nothing of it is read", tell(x, "cold 3"), 1);
        }
        IcePalace x = new IcePalace();
        feed(x, "cold 3;cold 4");
        x.wipe();
        feed(x, "cold 5");
        same("nothing of what it had", x.text() == 1 ? x.cold(0) : -1, 5);
    }

    private void text() {
        says(35, "THE TAPE is a TEXT, and empty then;");
        IcePalace x = new IcePalace();
        same("one item", tell(x, "cold 3"), 1);
        same("empty", x.count(6), 0);
        same("nothing to wipe", x.wipe(), 0);
        same("not read again", x.text(), -1);
        same("a short one behind a long one", tell(x, "cold 4;cold 5;cold 6") == 3 ? tell(x, "cold 7") : -1, 1);
        same("cold", x.cold(0), 7);
        says(35, "all that it tells is so, item by item:");
        IcePalace y = palace("candle 3 at 9 power 30 lit;cold 3;candle 3 at 10 power 29;cold -4;block 0;candle 3 at 11 lit");
        same("the last cell", y.candle(3, 0, 0), 11);
        same("the last power that is told", y.candle(3, 1, 0), 29);
        same("lit", y.lit(3, false), 1);
        same("the last cold", y.cold(0), -4);
        IcePalace behind = palace("block 9");
        same("blocks behind those that are there", tell(behind, "arch 1 grains 3;beam 0"), 2);
        same("numbers as they are told", behind.on(1) * 10 + behind.on(0), 12);
        same("kept for other items", behind.blockOf(0, 2), 20);
        same("a loose one is told too", tell(behind, "icicle 47"), 1);
        same("it isn't GONE till a FALL", behind.on(47), 3);
        says(35, "how many ITEMS.");
        same("one", tell(new IcePalace(), "cold1"), 1);
        same("20 in 119 bytes", tell(new IcePalace(), "cold3;".repeat(19) + "cold3"), 20);
        same("20 in 120 bytes", tell(new IcePalace(), "cold3;".repeat(19) + "cold13"), 20);
        same("16 blocks", sixteenItems(), 16);
    }

    private static int sixteenItems() {
        IcePalace x = new IcePalace();
        StringBuilder texts = new StringBuilder("beam0");
        for (int b = 1; b < 13; b++) {
            texts.append(";beam").append(b);
        }
        int items = tell(x, texts.toString()) + tell(x, "arch13;arch14;arch15");
        return x.count(1) == 16 ? items : -1;
    }

    /** Something of all that a text can change, and something kept. */
    private static IcePalace rich() {
        IcePalace x = palace("block 0 grains 30;arch 8 grains 6;candle 2 at 9 power 12 lit;candle 4 at 30;cold -6");
        x.hold(3, 1);
        write(x, 0, 8, 5, 6, 7, 8, 9);
        x.image();
        x.seed(5);
        x.cold(-7);
        return x;
    }

    private void textFault() {
        says(35, "With a FAULT: -1 less the FAULT (nothing changes but that THE TAPE is empty; no finding).");
        same("FAULT 0", tell(new IcePalace(), "x"), -1);
        same("FAULT 119", tell(new IcePalace(), " ".repeat(119) + "x"), -120);
        same("FAULT 120", tell(new IcePalace(), "cold3;".repeat(20)), -121);
        same("an empty tape", new IcePalace().text(), -1);
        String[] texts = {"", "x", "cold 3;", "cold 3;candle 2 at 3 power 4;block 9;block 9", "block 20;arch 21 grains 0",
            "candle 2 at 5 power 31", "candle 2 at 5 power 3 lit 4", "candle 4 at 5;cold 21", "cold 4;cold -", "block 3 grains"};
        for (String text : texts) {
            IcePalace x = rich();
            holds("FAULT of '" + text + "'", tell(x, text) < 0);
            same("the tape is empty behind '" + text + "'", x.count(6), 0);
            same("no finding", x.status(-1), 0);
            unchanged("'" + text + "'", x, rich());
        }
    }
}
