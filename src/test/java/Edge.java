import java.io.IOException;
import java.io.UncheckedIOException;
import java.nio.charset.StandardCharsets;
import java.nio.file.Files;
import java.nio.file.Path;
import java.util.NoSuchElementException;

/**
 * What the edges' and the sentences' tests have in common. A case tells the promise (0: what stands ahead of them) and the
 * document's own words, which have to stand there. No object in these tests is used for more than 512 calls.
 */
final class Edge {
    private static final Path DOC = Path.of("../shared/DOC.md");
    private static String whole;

    interface Maker {
        LetByTheDegree make();
    }

    interface Call {
        long on(LetByTheDegree x);
    }

    private Edge() {
    }

    static void of(int promise, String words, String what) {
        Due.promise((promise == 0 ? "terms" : "promise " + promise) + " \"" + words + "\": " + what);
        if (!section(promise).contains(words)) {
            Due.wrong("the document has no such words there");
        }
    }

    /** What the document says of a promise, in one line. */
    private static String section(int promise) {
        if (whole == null) {
            try {
                whole = Files.readString(DOC, StandardCharsets.UTF_8).replaceAll("\\s+", " ");
            } catch (IOException e) {
                throw new UncheckedIOException(e);
            }
        }
        int from = start(whole, promise);
        int to = stop(whole, promise);
        return from < 0 || to < 0 ? "" : whole.substring(from, to);
    }

    /** Where the document, in one line, begins to tell of a promise. */
    static int start(String doc, int promise) {
        return doc.indexOf(promise == 0 ? "## What it is" : "## Promise " + promise + ":");
    }

    static int stop(String doc, int promise) {
        return doc.indexOf(promise == 0 ? " ## Promise 1:" : " ## ", start(doc, promise) + 1);
    }

    // ---- calls that change nothing

    /** A call that is answered so and leaves all as it is, the ROW and THE TEXT too. */
    static void leaves(Maker m, String call, long want, Call c) {
        LetByTheDegree x = m.make();
        Due.is(call, c.on(x), want);
        same(call, trace(x, true), trace(m.make(), true));
    }

    /** A question that is answered so, tells its ROW, and leaves all else as it is. */
    static void asks(Maker m, String call, long want, Call c, long... row) {
        LetByTheDegree x = m.make();
        Due.is(call, c.on(x), want);
        Due.row(x, row);
        same(call, trace(x, false), trace(m.make(), false));
    }

    /** A call that reads THE TEXT, is answered so, and leaves nothing else changed. */
    static void reads(Maker m, String call, String text, long want, Call c) {
        LetByTheDegree x = m.make();
        x.end(0);
        Due.type(x, text);
        Due.is(call + " of " + text, c.on(x), want);
        Due.is("signs of THE TEXT behind " + call + " of " + text, x.count(12), 0);
        LetByTheDegree twin = m.make();
        twin.end(0);
        same(call + " of " + text, trace(x, true), trace(twin, true));
    }

    private static void same(String call, String got, String want) {
        if (!got.equals(want)) {
            Due.wrong(call + " left " + got + ", due is " + want);
        }
    }

    /** All that can be found out about an object; it is not the same behind this. */
    private static String trace(LetByTheDegree x, boolean row) {
        StringBuilder b = new StringBuilder(Due.all(x));
        if (row) {
            b.append(Due.rowOf(x));
        }
        b.append(" doings");
        for (int p = 0; p < x.count(2); p++) {
            for (int k = 0; k < 6; k++) {
                b.append(' ').append(x.doing(p, k, 0));
            }
        }
        for (int left = x.undo(); left >= 0; left = x.undo()) {
            b.append(" | ").append(Due.world(x));
        }
        for (int i = 0; i < 2; i++) {
            b.append(" | ").append(x.again(i)).append(' ').append(Due.world(x));
        }
        return b.append(" | ").append(x.winter()).append(' ').append(Due.world(x)).toString();
    }

    // ---- objects

    /** One of which all that can be told is told: a rule, HOURS gone by, something to undo, one kept, a ROW, a text. */
    static LetByTheDegree busy() {
        LetByTheDegree x = Due.of("10,4/6,8", "a1:405060;b2:913000");
        Due.rule(x, "w/2+a");
        x.set(0, 4);
        x.set(2, 3);
        x.hour();
        x.keep(0);
        x.stove(1);
        x.move(0, 3);
        x.water();
        Due.type(x, "f7;h");
        return x;
    }

    /** The same with nobody, in a house without ICE. */
    static LetByTheDegree bare() {
        LetByTheDegree x = Due.of("0,0/0,0", "");
        x.hour();
        return x;
    }

    /** Without a house, one HOUR gone by. */
    static LetByTheDegree homeless() {
        LetByTheDegree x = new LetByTheDegree();
        x.hour();
        return x;
    }

    /** LINES of people in the highest storey's first room, each with these DOINGS. */
    static String lines(int n, String doings) {
        StringBuilder b = new StringBuilder();
        for (int k = 0; k < n; k++) {
            b.append(k == 0 ? "" : ";").append("a1:").append(doings);
        }
        return b.toString();
    }

    // ---- what is told

    /** ROOMS that are there, as bits; of all numbers near them the others throw. */
    static int rooms(LetByTheDegree x) {
        int bits = 0;
        for (int r = -4; r <= 12; r++) {
            try {
                x.room(r, 0);
                bits |= r < 0 ? -1 : 1 << r;
            } catch (NoSuchElementException e) {
                // none such
            }
        }
        return bits;
    }

    /** What is counted, from a first one on. */
    static void counts(LetByTheDegree x, int first, int... want) {
        for (int k = 0; k < want.length; k++) {
            Due.is("count(" + (first + k) + ")", x.count(first + k), want[k]);
        }
    }

    /** What is told of a room, from ICE on. */
    static void room(LetByTheDegree x, int r, int... want) {
        for (int what = 0; what < want.length; what++) {
            Due.is("room(" + r + ", " + what + ")", x.room(r, what), want[what]);
        }
    }

    /** What is told of a person, from its room on. */
    static void person(LetByTheDegree x, int p, int... want) {
        for (int what = 0; what < want.length; what++) {
            Due.is("person(" + p + ", " + what + ")", x.person(p, what), want[what]);
        }
    }

    /** What melts in room 0 by a rule. */
    static void melts(LetByTheDegree x, String rule, int want) {
        Due.is("rule() of " + rule, Due.rule(x, rule), 0);
        Due.is("room(0, 3) by " + rule, x.room(0, 3), want);
    }
}
