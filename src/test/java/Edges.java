import java.util.ArrayList;
import java.util.List;
import java.util.function.IntUnaryOperator;
import java.util.function.Supplier;
import java.util.function.ToIntFunction;

/**
 * Tests of the document's sentences, each behind the words that it tests. A run fails if an answer isn't as due, if a
 * quote doesn't stand in the document, if a quote has no test, or if words of a section are quoted nowhere.
 */
abstract class Edges extends Palaces {
    private final Due due;
    private final Document document = new Document();
    private final int first;
    private final int last;
    private int section;
    private String quote = "";
    private int asked;

    /** The test of some sections; section 0 is "Terms", the others are promises. */
    Edges(String name, int first, int last) {
        due = new Due(name);
        this.first = first;
        this.last = last;
    }

    /** What follows tests these words of a section. */
    final void says(int section, String quote) {
        closeQuote();
        this.section = section;
        this.quote = quote;
        due.holds("'" + quote + "' stands in section " + section, document.quote(section, quote));
    }

    private void closeQuote() {
        due.holds("'" + quote + "' has a test", quote.isEmpty() || asked > 0);
        asked = 0;
    }

    final void same(String call, int got, int want) {
        asked++;
        due.same(section, "'" + quote + "': " + call, got, want);
    }

    final void holds(String what, boolean does) {
        same(what, does ? 1 : 0, 1);
    }

    /** An argument from least to most is taken, one outside is BEYOND; each call is to be on an object of its own. */
    final void range(String argument, int least, int most, IntUnaryOperator call) {
        for (int v : new int[] {MIN, least - 1, most + 1, MAX}) {
            same(argument + " " + v, call.applyAsInt(v), BEYOND);
        }
        for (int v : new int[] {least, most}) {
            holds(argument + " " + v + " is taken", call.applyAsInt(v) != BEYOND);
        }
    }

    /** A call answers a finding, and nothing is other than without it but status(). */
    final void refused(String call, int finding, Supplier<IcePalace> made, ToIntFunction<IcePalace> act) {
        IcePalace x = made.get();
        IcePalace twin = made.get();
        same(call, act.applyAsInt(x), finding);
        for (int which = -1; which < 7; which++) {
            int more = which == -1 || which == BEYOND - finding ? 1 : 0;
            same("status(" + which + ") behind " + call, x.status(which), twin.status(which) + more);
        }
        unchanged(call, x, twin);
    }

    /** A call leaves all as it is on an object without it, but perhaps status(). */
    final void unchanged(String call, IcePalace x, IcePalace twin) {
        List<String> seen = picture(x);
        List<String> want = picture(twin);
        String other = "";
        for (int i = 0; i < want.size() && other.isEmpty(); i++) {
            other = i < seen.size() && seen.get(i).equals(want.get(i)) ? "" : seen.get(i) + " for " + want.get(i);
        }
        holds("nothing is other behind " + call + " " + other, seen.equals(want));
    }

    final void end() {
        closeQuote();
        for (int i = first; i <= last; i++) {
            due.holds("section " + i + " is quoted whole but for " + document.unquoted(i), document.unquoted(i).isEmpty());
        }
        due.end();
    }

    /** All that can be seen of a palace but status(), what is kept too; some 250 calls, and it changes much. */
    private static List<String> picture(IcePalace x) {
        List<String> seen = new ArrayList<>();
        seeCounts(seen, x);
        seeBlocks(seen, x);
        seeCandles(seen, x);
        for (int spot = 0; spot < 10; spot++) {
            see(seen, "what spot " + spot + " holds", x.as(spot, 0));
        }
        see(seen, "the tape's text", x.text());
        seeSheets(seen, x);
        see(seen, "undo()", x.undo());
        seeCounts(seen, x);
        seeBlocks(seen, x);
        return seen;
    }

    private static void see(List<String> seen, String what, int is) {
        seen.add(what + " " + is);
    }

    private static void seeCounts(List<String> seen, IcePalace x) {
        for (int what = 0; what < 8; what++) {
            see(seen, "count(" + what + ")", x.count(what));
        }
    }

    private static void seeBlocks(List<String> seen, IcePalace x) {
        int blocks = x.count(1);
        for (int b = 0; b < blocks; b++) {
            for (int what = 0; what < 3; what++) {
                see(seen, "blockOf(" + b + ", " + what + ")", x.blockOf(b, what));
            }
        }
        for (int cell = 0; cell < 48; cell++) {
            see(seen, "on(" + cell + ")", x.on(cell));
        }
    }

    private static void seeCandles(List<String> seen, IcePalace x) {
        for (int c = 0; c < 6; c++) {
            see(seen, "cell of candle " + c, x.candle(c, 0, 0));
            see(seen, "power of candle " + c, x.candle(c, 1, 0));
            see(seen, "candle " + c + " lit", x.lit(c, false));
        }
        see(seen, "cold", x.cold(-5));
    }

    /** Sheets show in the GRAINS that they load. */
    private static void seeSheets(List<String> seen, IcePalace x) {
        for (int s = 0; s < 4; s++) {
            see(seen, "load(" + s + ")", x.load(s));
            see(seen, "sheet " + s + " as grains", x.count(3));
            see(seen, "bits and size of " + s, x.copy(s, 0, (s + 1) % 4, 0, 5));
        }
    }
}
