import java.util.function.IntSupplier;

/** The sentences of promises 17 to 25: what lies ahead. */
public final class AheadEdgeTest extends Edges {
    private AheadEdgeTest() {
        super("AheadEdgeTest", 17, 25);
    }

    public static void main(String[] args) {
        AheadEdgeTest test = new AheadEdgeTest();
        test.ahead();
        test.goes();
        test.holds();
        test.deal();
        test.bears();
        test.needs();
        test.mend();
        test.whose();
        test.drawing();
        test.end();
    }

    /** A palace of a text, at an hour; it takes some 240 calls. */
    private static IcePalace at(int hour, String text) {
        IcePalace x = aged(hour);
        if (tell(x, text) < 0) {
            throw new IllegalStateException("no palace: " + text);
        }
        return x;
    }

    /** Block 0 is GONE, block 1 is on cell 0; candle 2 is lit, far away. */
    private static IcePalace oneGone() {
        IcePalace x = palace("block 47 grains 9;block 0 grains 9;candle 2 at 47 power 1 lit");
        x.fall();
        return x;
    }

    /** A block of 20 GRAINS (0) on one of 5 (1), AIR 1: frost makes the upper one too heavy, warmth the lower too weak. */
    private static IcePalace crushedByFrost() {
        IcePalace x = palace("block 8 grains 20;block 0 grains 5;block 7 grains 1;candle 0 at 7 power 6 lit");
        x.hours(1);
        x.lit(0, false);
        return x;
    }

    /** The call twice: it is told from the same state both times. */
    private void twice(String call, int want, IntSupplier act) {
        same(call, act.getAsInt(), want);
        same(call + " again", act.getAsInt(), want);
    }

    // ---- ahead

    private static IcePalace melting() {
        return palace("block 0 grains 10;block 1 grains 97;block 47 grains 7;cold 1");
    }

    private void then(int what, IcePalace x, int... hoursAndWants) {
        for (int i = 0; i + 1 < hoursAndWants.length; i += 2) {
            int n = hoursAndWants[i];
            twice("ahead(" + n + ", " + what + ")", hoursAndWants[i + 1], () -> x.ahead(n, what));
        }
    }

    private void ahead() {
        says(17, "AHEAD n HOURS (0 to 96):");
        range("n", 0, 96, n -> new IcePalace().ahead(n, 0));
        same("0 hours are now", palace("block 47 grains 7").ahead(0, 3), 0);
        same("96 hours", palace("block 0 grains 96;cold 1").ahead(96, 0), 1);
        same("96 hours and no more", palace("block 0 grains 97;cold 1").ahead(96, 0), 0);
        IcePalace x = melting();
        IcePalace fallen = melting();
        fallen.fall();
        says(17, "what 0 how many BLOCKS are GONE then that aren't now,");
        then(0, x, 0, 0, 1, 1, 9, 1, 10, 2, 96, 2);
        then(0, fallen, 0, 0, 1, 0, 9, 0, 10, 1, 96, 1);
        says(17, "1 GRAINS of all,");
        then(1, x, 0, 114, 1, 105, 9, 89, 10, 87, 96, 1);
        then(1, fallen, 0, 107, 1, 105, 96, 1);
        says(17, "2 AIR,");
        then(2, x, 0, 0, 1, 3, 10, 21, 11, 22, 96, 107);
        then(2, fallen, 0, 0, 1, 2, 96, 106);
        says(17, "3 RUBBLE,");
        then(3, x, 0, 0, 1, 6, 96, 6);
        then(3, fallen, 0, 7, 96, 7);
        says(17, "4 BLOCKS that are GONE then, as a set.");
        then(4, x, 0, 0, 1, 4, 9, 4, 10, 5, 96, 5);
        then(4, fallen, 0, 4, 1, 4, 10, 5, 96, 5);
        IcePalace sixteen = chain();
        sixteen.take(15, 47);
        same("sixteen", sixteen.ahead(1, 4), 65535);
        says(17, "BEYOND.");
        range("n", 0, 96, n -> melting().ahead(n, 4));
        range("what", 0, 4, what -> melting().ahead(0, what));
        says(17, "STATE: HOUR would be above 9999.");
        for (int what = 0; what < 5; what++) {
            same("ahead(96, " + what + ") from 9903", aged(9903).ahead(96, what), 0);
            same("ahead(96, " + what + ") from 9904", aged(9904).ahead(96, what), STATE);
        }
        same("ahead(95, 1) from 9904", at(9904, "block 0 grains 96;cold 1").ahead(95, 1), 1);
        IcePalace last = at(9999, "block 0 grains 8;cold 1");
        same("ahead(0, 1) from 9999", last.ahead(0, 1), 8);
        same("ahead(1, 1) from 9999", last.ahead(1, 1), STATE);
        same("97 is BEYOND at 9999 too", last.ahead(97, 1), BEYOND);
    }

    // ---- goes, holds

    private void goes() {
        says(18, "In how many HOURS (1 to 96) AHEAD a BLOCK is GONE first.");
        twice("a loose one", 1, () -> palace("block 47").goes(0));
        same("all in one hour", palace("block 0 grains 5;cold 5").goes(0), 1);
        same("all but one grain", palace("block 0 grains 6;cold 5").goes(0), 2);
        same("95", palace("block 0 grains 95;cold 1").goes(0), 95);
        same("96", palace("block 0 grains 96;cold 1").goes(0), 96);
        IcePalace x = palace("block 0 grains 3;block 8 grains 8;block 2 grains 4;block 3 grains 5;cold 1");
        int[] when = {2, 2, 4, 5};
        for (int b = 0; b < 4; b++) {
            int block = b;
            twice("goes(" + b + "), each by itself", when[b], () -> x.goes(block));
        }
        says(18, "BEYOND.");
        range("a block", 0, 3, b -> palace("block 0;block 1;block 2;block 3").goes(b));
        same("a block of none", new IcePalace().goes(0), BEYOND);
        says(18, "STATE: it is GONE, or HOUR is above 9903.");
        same("it is GONE", oneGone().goes(0), STATE);
        same("the other isn't", oneGone().goes(1), NONE);
        same("9903", at(9903, "block 0 grains 96;cold 1").goes(0), 96);
        same("9904", at(9904, "block 0 grains 1;cold 1").goes(0), STATE);
        same("9999", at(9999, "block 0 grains 1;cold 1").goes(0), STATE);
        says(18, "NONE.");
        same("97", palace("block 0 grains 97;cold 1").goes(0), NONE);
        same("never", palace("block 0 grains 1;cold 0").goes(0), NONE);
        same("never, in frost", palace("block 0 grains 1;cold -20").goes(0), NONE);
    }

    private void holds() {
        says(19, "How many HOURS (0 to 96) it HOLDS, 96 at most.");
        same("a loose one", palace("block 0;block 47").holds(), 0);
        same("a weak one", palace("block 0 grains 1;block 8 grains 5").holds(), 0);
        same("one is GONE in the first", palace("block 0 grains 1;cold 1").holds(), 0);
        same("one is GONE in the second", palace("block 0 grains 2;cold 1").holds(), 1);
        same("in the 96th", palace("block 0 grains 96;cold 1").holds(), 95);
        same("in the 97th", palace("block 0 grains 97;cold 1").holds(), 96);
        same("in the 98th", palace("block 0 grains 98;cold 1").holds(), 96);
        same("in none", palace("block 0;cold 0").holds(), 96);
        same("no blocks", new IcePalace().holds(), 96);
        same("the first of several", palace("block 0 grains 9;block 1 grains 5;block 2 grains 7;cold 1").holds(), 4);
        same("one that is GONE already", oneGone().holds(), 96);
        IcePalace x = palace("block 0 grains 9;cold 2");
        twice("nothing changes", 4, () -> x.holds());
        says(19, "STATE: HOUR is above 9903.");
        same("9903", at(9903, "block 0 grains 96;cold 1").holds(), 95);
        same("9904", at(9904, "block 0 grains 1;cold 1").holds(), STATE);
        same("9904 without blocks", aged(9904).holds(), STATE);
        same("9999", aged(9999).holds(), STATE);
    }

    // ---- deal, bears

    private void deal() {
        says(20, "Of the sets of CANDLES (LIT just these) with which it HOLDS n (1 to 48) HOURS that with most LIGHT;");
        String six = "candle 0 at 0 power 1;candle 1 at 0 power 1;candle 2 at 0 power 1;candle 3 at 0 power 1;candle 4 at 0 power 1";
        IcePalace all = palace(six, "candle 5 at 0 power 1");
        same("all six", all.deal(48), 63);
        all.block(BLOCK, 0, 1);
        same("all six without WARMTH above 0", all.deal(48), 31);
        all.cold(0);
        same("none of them", all.deal(1), 0);
        IcePalace x = palace("block 0 grains 10;candle 0 at 0 power 3;cold 0");
        same("for three hours", x.deal(3), 1);
        same("for four not", x.deal(4), 0);
        same("48 hours", palace("block 0 grains 49;candle 0 at 0 power 1;cold 0").deal(48), 1);
        same("not 48 hours", palace("block 0 grains 48;candle 0 at 0 power 1;cold 0").deal(48), 0);
        same("one that is lit now is out", palace("block 0 grains 1;candle 4 at 0 power 6 lit").deal(1), 0);
        same("one that is lit now counts no more than others",
            palace("block 0 grains 1;candle 4 at 0 power 3 lit;candle 5 at 0 power 4").deal(1), 32);
        same("most light, not most candles",
            palace("block 0 grains 1;candle 0 at 0 power 2;candle 1 at 0 power 2;candle 2 at 0 power 5").deal(1), 4);
        IcePalace lit = palace("block 0 grains 50;candle 1 at 0 power 6 lit;candle 2 at 3 power 9");
        twice("nothing changes", 6, () -> lit.deal(3));
        same("none is lit or put out", lit.light(), 6);
        says(20, "of several the least.");
        same("one or two of as much light, the two less",
            palace("block 0 grains 1;candle 0 at 0 power 3;candle 1 at 0 power 4;candle 2 at 0 power 7;cold -7").deal(48), 3);
        same("one or two of as much light, the one less",
            palace("block 0 grains 1;candle 0 at 0 power 7;candle 1 at 0 power 3;candle 2 at 0 power 4;cold -7").deal(48), 1);
        same("without those that have no power", palace("block 0;candle 3 at 0 power 2;candle 4 at 0").deal(48), 8);
        same("without any power", palace("block 0;candle 5 at 0 lit").deal(48), 0);
        says(20, "BEYOND.");
        range("n", 1, 48, n -> palace("block 0").deal(n));
        says(20, "STATE: HOUR would be above 9999.");
        same("deal(48) from 9951", at(9951, "candle 3 at 0 power 1").deal(48), 8);
        same("deal(48) from 9952", at(9952, "candle 3 at 0 power 1").deal(48), STATE);
        same("deal(47) from 9952", at(9952, "candle 3 at 0 power 1").deal(47), 8);
        same("deal(1) from 9998", aged(9998).deal(1), 0);
        same("deal(1) from 9999", aged(9999).deal(1), STATE);
        says(20, "NONE.");
        same("it falls with any", palace("block 47;candle 0 at 0 power 1").deal(1), NONE);
        same("too warm without any", palace("block 0 grains 1;cold 1").deal(1), NONE);
        same("in the second hour", palace("block 0 grains 2;cold 1").deal(2), NONE);
        same("in the first not", palace("block 0 grains 2;cold 1").deal(1), 0);
    }

    private void bears() {
        says(21, "The greatest COLD (-20 to 20) with which it HOLDS n (1 to 48) HOURS.");
        same("no blocks", new IcePalace().bears(48), 20);
        same("20", palace("block 0 grains 21").bears(1), 20);
        same("19", palace("block 0 grains 20").bears(1), 19);
        same("0", palace("block 0 grains 1").bears(1), 0);
        same("-1", palace("block 0 grains 1;candle 0 at 0 power 1 lit").bears(48), -1);
        same("-20", palace("block 0 grains 11;candle 0 at 0 power 30 lit").bears(1), -20);
        same("48 hours of 1", palace("block 0 grains 49").bears(48), 1);
        same("48 hours of 0", palace("block 0 grains 48").bears(48), 0);
        same("48 hours of 2", palace("block 0 grains 97").bears(48), 2);
        same("whatever it is now", palace("block 0 grains 5;cold 20").bears(1), 4);
        same("though with less it falls", crushedByFrost().bears(1), 0);
        IcePalace x = palace("block 0 grains 9");
        twice("nothing changes", 2, () -> x.bears(4));
        same("COLD is as it was", x.cold(0), -5);
        says(21, "BEYOND.");
        range("n", 1, 48, n -> palace("block 0").bears(n));
        says(21, "STATE likewise.");
        same("bears(48) from 9951", at(9951, "block 0 grains 49").bears(48), 1);
        same("bears(48) from 9952", at(9952, "block 0 grains 49").bears(48), STATE);
        same("bears(47) from 9952", at(9952, "block 0 grains 48").bears(47), 1);
        same("bears(1) from 9998", aged(9998).bears(1), 20);
        same("bears(1) from 9999", aged(9999).bears(1), STATE);
        says(21, "NONE.");
        same("it falls with any", palace("block 47").bears(1), NONE);
        same("too warm with -20", palace("block 0 grains 10;candle 0 at 0 power 30 lit").bears(1), NONE);
        same("too warm in the second hour", palace("block 0 grains 20;candle 0 at 0 power 30 lit").bears(2), NONE);
    }

    // ---- needs, mend

    private void needs() {
        says(22, "The least n (0 to 99) of GRAINS that a BLOCK would have to have more now (99 in all at most) "
            + "that it HOLDS h (1 to 48) HOURS.");
        same("none", palace("block 0 grains 1;cold 0").needs(0, 48), 0);
        same("none, by one", palace("block 0 grains 10;cold 3").needs(0, 3), 0);
        same("one", palace("block 0 grains 9;cold 3").needs(0, 3), 1);
        same("the most", palace("block 0 grains 1;cold 14").needs(0, 7), 98);
        same("99 would not do", palace("block 0 grains 1;cold 11").needs(0, 9), NONE);
        same("100 would do", palace("block 0 grains 50;cold 11").needs(0, 9), NONE);
        same("99 already", palace("block 0 grains 99;cold 14").needs(0, 7), 0);
        same("99 already, one hour more", palace("block 0 grains 99;cold 14").needs(0, 8), NONE);
        same("48 hours", palace("block 0 grains 1;cold 2").needs(0, 48), 96);
        same("it must bear more", palace("block 0 grains 2;block 8 grains 31").needs(0, 1), 6);
        same("also where water wouldn't freeze", palace("block 0 grains 2;cold 5").needs(0, 1), 4);
        IcePalace x = palace("block 0 grains 5;block 8 grains 3;cold 1");
        twice("one on another", 2, () -> x.needs(1, 4));
        same("while the other one is there", x.needs(1, 5), NONE);
        same("nothing changes", x.count(3), 8);
        same("with fewer it melts, with more it is too heavy",
            palace("block 0 grains 1;block 8 grains 2;candle 0 at 8 power 6 lit;cold -3").needs(1, 1), 2);
        same("as much as the lower one bears", palace("block 0 grains 5;block 8 grains 8;cold 1").needs(1, 4), 0);
        same("more than the lower one bears", palace("block 0 grains 5;block 8 grains 9;cold 1").needs(1, 4), NONE);
        says(22, "BEYOND.");
        range("a block", 0, 1, b -> palace("block 0;block 1").needs(b, 1));
        range("h", 1, 48, h -> palace("block 0").needs(0, h));
        same("a block of none", new IcePalace().needs(0, 1), BEYOND);
        says(22, "STATE: it is GONE, or likewise.");
        same("it is GONE", oneGone().needs(0, 1), STATE);
        same("the other isn't", oneGone().needs(1, 1), 0);
        same("needs(0, 48) from 9951", at(9951, "block 0 grains 47;cold 1").needs(0, 48), 2);
        same("needs(0, 48) from 9952", at(9952, "block 0 grains 47;cold 1").needs(0, 48), STATE);
        same("needs(0, 47) from 9952", at(9952, "block 0 grains 47;cold 1").needs(0, 47), 1);
        same("needs(0, 1) from 9999", at(9999, "block 0").needs(0, 1), STATE);
        says(22, "NONE.");
        same("it is loose with any", palace("block 47").needs(0, 1), NONE);
        same("another one is", palace("block 47;block 0").needs(1, 1), NONE);
        same("it is too warm", palace("block 0 grains 9;candle 0 at 0 power 30 lit;cold 20").needs(0, 2), NONE);
    }

    private void mend() {
        says(23, "The BLOCK to which n GRAINS (1 to 98; 99 in all at most) more would have to come now "
            + "that it HOLDS longest (96 HOURS at most).");
        same("the one that goes first", palace("block 0 grains 20;block 1 grains 10;cold 2").mend(1), 1);
        same("what bears too much", palace("block 8 grains 21;block 0 grains 5").mend(1), 1);
        same("what must not weigh more", palace("block 8 grains 20;block 0 grains 5").mend(1), 1);
        same("the least of several", palace("block 3 grains 9;block 2 grains 9;cold 1").mend(5), 0);
        same("the least where none holds", palace("block 47;block 0").mend(98), 0);
        same("98 more, up to 99", palace("block 0 grains 99;block 1 grains 10;cold 1").mend(98), 1);
        same("98 more, from 1", palace("block 0 grains 99;block 1 grains 1;cold 1").mend(98), 1);
        same("99 at most, though it is too heavy with more",
            palace("block 8 grains 50;block 0 grains 25").mend(98), 0);
        same("95 and 96 hours", palace("block 0 grains 99;block 1 grains 96;cold 1").mend(1), 1);
        same("96 hours and 97", palace("block 0 grains 99;block 1 grains 97;cold 1").mend(1), 0);
        same("the last of sixteen", sixteenth().mend(1), 15);
        IcePalace gone = palace("block 47 grains 1;block 0 grains 20;block 1 grains 10;cold 2");
        gone.fall();
        same("a GONE one doesn't count", gone.mend(1), 2);
        twice("nothing changes", 2, () -> gone.mend(98));
        same("nothing changes", gone.count(3), 30);
        says(23, "BEYOND.");
        range("n", 1, 98, n -> palace("block 0").mend(n));
        says(23, "STATE: HOUR is above 9903.");
        same("9903", at(9903, "block 0;block 1 grains 3;cold 1").mend(1), 1);
        same("9904", at(9904, "block 0;block 1 grains 3;cold 1").mend(1), STATE);
        same("9904 without blocks", aged(9904).mend(1), STATE);
        says(23, "NONE: all are GONE.");
        same("no blocks", new IcePalace().mend(1), NONE);
        IcePalace all = palace("block 47;block 46");
        all.fall();
        same("both are GONE", all.mend(1), NONE);
        same("one isn't", oneGone().mend(1), 1);
    }

    /** Sixteen blocks, the last of which goes first. */
    private static IcePalace sixteenth() {
        IcePalace x = new IcePalace();
        for (int b = 0; b < 16; b++) {
            x.block(PILLAR, b, b < 15 ? 30 : 5);
        }
        x.cold(1);
        return x;
    }

    // ---- whose, drawing

    private void whose() {
        says(24, "The LIT CANDLE without which a BLOCK would be GONE latest (96 HOURS at most; 97 if it isn't by then).");
        String two = ";candle 3 at 0 power 3 lit;candle 5 at 0 power 5 lit;cold 0";
        same("the warmer one", palace("block 0 grains 20" + two).whose(0), 5);
        same("the nearer one", palace("block 0 grains 20;candle 1 at 0 power 9 lit;candle 2 at 7 power 30 lit;cold 0").whose(0), 1);
        same("the only one", palace("block 0;candle 5 at 40 power 1 lit").whose(0), 5);
        same("the only one, without power", palace("block 0;candle 0 at 40 lit").whose(0), 0);
        same("not one that isn't lit", palace("block 0 grains 20;candle 1 at 0 power 30" + two).whose(0), 5);
        same("the least of several", palace("block 0;candle 4 at 0 power 9 lit;candle 2 at 0 power 9 lit").whose(0), 2);
        same("95 hours and 96",
            palace("block 0 grains 96;candle 0 at 0 power 1 lit;candle 1 at 0 power 2 lit;cold -1").whose(0), 1);
        same("96 hours and 97",
            palace("block 0 grains 96;candle 0 at 47 lit;candle 1 at 0 power 1 lit;cold 0").whose(0), 1);
        same("97 hours and never",
            palace("block 0 grains 97;candle 0 at 47 lit;candle 1 at 0 power 1 lit;cold 0").whose(0), 0);
        same("of a loose one each", palace("block 47;candle 1 at 0 power 1 lit;candle 2 at 0 power 30 lit").whose(0), 1);
        IcePalace x = palace("block 0 grains 20;block 40 grains 30;candle 0 at 0 power 12 lit;candle 1 at 7 power 12 lit;cold 3");
        x.take(1, 7);
        twice("of one block", 0, () -> x.whose(0));
        twice("of another", 1, () -> x.whose(1));
        same("none is put out", x.light(), 24);
        IcePalace borne = palace("block 0 grains 20;pillar 8 grains 20;candle 0 at 16 power 4 lit;candle 1 at 0 power 6 lit;cold 0");
        same("by what bears it", borne.whose(1), 1);
        says(24, "BEYOND.");
        range("a block", 0, 1, b -> palace("block 0;block 1;candle 0 at 0 lit").whose(b));
        same("a block of none", palace("candle 0 at 0 lit").whose(0), BEYOND);
        says(24, "STATE: it is GONE, or HOUR is above 9903.");
        same("it is GONE", oneGone().whose(0), STATE);
        same("the other isn't", oneGone().whose(1), 2);
        same("9903", at(9903, "block 0;candle 4 at 0 lit").whose(0), 4);
        same("9904", at(9904, "block 0;candle 4 at 0 lit").whose(0), STATE);
        same("9904, none lit", at(9904, "block 0").whose(0), STATE);
        says(24, "NONE: none is LIT.");
        same("none", palace("block 0;candle 4 at 0 power 30").whose(0), NONE);
        same("none, it is loose", palace("block 47").whose(0), NONE);
    }

    private void drawing() {
        says(25, "All COLDS (-20 to 20) with which GRAINS of a BLOCK would be v (0 to 99) behind n (1 to 24) HOURS AHEAD: "
            + "how many, and the least of them: 100 times how many, and 20 and that least.");
        same("all", palace("block 47").drawing(0, 1, 0), 4100);
        same("20 alone", palace("block 0 grains 21").drawing(0, 1, 1), 140);
        same("19 and 20", palace("block 0 grains 19").drawing(0, 1, 0), 239);
        same("-20 alone", palace("block 0 grains 11;candle 0 at 0 power 30 lit").drawing(0, 1, 1), 100);
        IcePalace x = palace("block 0 grains 99");
        twice("24 hours", 124, () -> x.drawing(0, 24, 3));
        same("24 hours, none is lost", x.drawing(0, 24, 99), 2100);
        same("24 hours, GONE", x.drawing(0, 24, 0), 1625);
        same("23 hours", x.drawing(0, 23, 7), 124);
        same("COLD is as it was", x.cold(-5), -5);
        IcePalace frost = palace("block 0 grains 10;block 7 grains 9;candle 0 at 7 power 30 lit;cold -3");
        frost.hours(1);
        frost.lit(0, false);
        same("by frost as much as AIR has", frost.drawing(0, 1, 19), 300);
        same("by frost more than AIR has", frost.drawing(0, 1, 20), NONE);
        same("by no frost", frost.drawing(0, 1, 10), 219);
        same("not one behind another", crushedByFrost().drawing(1, 1, 0), 3900);
        same("those between", crushedByFrost().drawing(1, 1, 5), 219);
        IcePalace two = palace("block 0 grains 10;block 1 grains 20");
        same("of one block", two.drawing(0, 1, 5), 125);
        same("of another", two.drawing(1, 1, 5), 135);
        says(25, "BEYOND.");
        range("a block", 0, 1, b -> palace("block 0;block 1").drawing(b, 1, 20));
        range("n", 1, 24, n -> palace("block 0").drawing(0, n, 20));
        range("v", 0, 99, v -> palace("block 0 grains 99").drawing(0, 24, v));
        same("a block of none", new IcePalace().drawing(0, 1, 0), BEYOND);
        says(25, "STATE: it is GONE, or HOUR would be above 9999.");
        same("it is GONE", oneGone().drawing(0, 1, 0), STATE);
        same("the other isn't", oneGone().drawing(1, 1, 9), 2100);
        same("drawing(0, 24, 20) from 9975", at(9975, "block 0").drawing(0, 24, 20), 2100);
        same("drawing(0, 24, 20) from 9976", at(9976, "block 0").drawing(0, 24, 20), STATE);
        same("drawing(0, 23, 20) from 9976", at(9976, "block 0").drawing(0, 23, 20), 2100);
        same("drawing(0, 1, 20) from 9999", at(9999, "block 0").drawing(0, 1, 20), STATE);
        says(25, "NONE.");
        same("more than it gets", palace("block 0 grains 10").drawing(0, 1, 11), NONE);
        same("between two", palace("block 0 grains 10").drawing(0, 2, 9), NONE);
        same("less than it has in the warmest", palace("block 0 grains 30").drawing(0, 1, 9), NONE);
    }
}
