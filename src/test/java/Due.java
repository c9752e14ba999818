import java.util.Arrays;
import java.util.NoSuchElementException;
import java.util.function.LongSupplier;

/** What the promises' tests have in common: cases with names, and answers that are due. */
final class Due {
    private static int passed;
    private static int failed;
    private static String name;
    private static boolean right;

    private Due() {
    }

    static void promise(String what) {
        close();
        name = what;
        right = true;
    }

    private static void close() {
        if (name == null) {
            return;
        }
        if (right) {
            passed++;
        } else {
            failed++;
            System.out.println("FAILED  " + name);
        }
        name = null;
    }

    static void end() {
        close();
        System.out.println(passed + " passed, " + failed + " failed");
        if (failed > 0) {
            System.exit(1);
        }
    }

    static void wrong(String what) {
        right = false;
        System.out.println(name + ": " + what);
    }

    static void is(String call, long got, long want) {
        if (got != want) {
            wrong(call + " answered " + got + ", due is " + want);
        }
    }

    static void is(String call, boolean got, boolean want) {
        is(call, got ? 1 : 0, want ? 1 : 0);
    }

    static void row(LetByTheDegree x, long... want) {
        long[] got = new long[Math.max(0, x.count(11))];
        for (int i = 0; i < got.length; i++) {
            got[i] = x.row(i);
        }
        if (!Arrays.equals(got, want)) {
            wrong("the row is " + Arrays.toString(got) + ", due is " + Arrays.toString(want));
        }
    }

    static void throwsNone(String call, LongSupplier c) {
        try {
            wrong(call + " answered " + c.getAsLong() + ", due is NoSuchElementException");
        } catch (NoSuchElementException e) {
            // as it is due
        }
    }

    /** A call that is answered so, changes nothing, and leaves the row. */
    static void leaves(LetByTheDegree x, String call, long want, LongSupplier c) {
        String ahead = glance(x) + rowOf(x);
        is(call, c.getAsLong(), want);
        String behind = glance(x) + rowOf(x);
        if (!ahead.equals(behind)) {
            wrong(call + " made of " + ahead + " " + behind);
        }
    }

    /** A question that is answered so, with its row, and changes nothing else. */
    static void asks(LetByTheDegree x, String call, long want, LongSupplier c, long... row) {
        String ahead = glance(x);
        is(call, c.getAsLong(), want);
        row(x, row);
        String behind = glance(x);
        if (!ahead.equals(behind)) {
            wrong(call + " made of " + ahead + " " + behind);
        }
    }

    static String rowOf(LetByTheDegree x) {
        StringBuilder b = new StringBuilder(" row");
        for (int i = 0; i < x.count(11); i++) {
            b.append(' ').append(x.row(i));
        }
        return b.toString();
    }

    /** Few calls, as an object has no more than 512 of them; Edge compares all there is. */
    private static String glance(LetByTheDegree x) {
        StringBuilder b = new StringBuilder();
        for (int what : new int[] {3, 4, 6, 8, 9, 10, 12}) {
            b.append(' ').append(x.count(what));
        }
        return b.toString();
    }

    /** All that can be seen of an object but for its row. */
    static String all(LetByTheDegree x) {
        return world(x) + " heat " + x.count(5) + " price " + x.count(7) + " undo " + x.count(10) + " text " + x.count(12);
    }

    /** What is undone and kept: of rooms, of people, the pond, now, frost, the stove. */
    static String world(LetByTheDegree x) {
        int columns = x.count(0);
        int storeys = x.count(1);
        int persons = x.count(2);
        StringBuilder b = new StringBuilder();
        b.append(columns).append('x').append(storeys).append(" now ").append(x.count(8));
        b.append(" frost ").append(x.count(6)).append(" stove ").append(x.count(4)).append(" rooms");
        for (int y = 0; y < storeys; y++) {
            for (int k = 0; k < columns; k++) {
                b.append(' ').append(x.room(3 * y + k, 0)).append('+').append(x.room(3 * y + k, 1));
                b.append(':').append(x.room(3 * y + k, 3));
            }
        }
        b.append(" people");
        for (int p = 0; p < persons; p++) {
            for (int what = 0; what < 5; what++) {
                b.append(what == 0 ? ' ' : ',').append(x.person(p, what));
            }
        }
        return b.toString();
    }

    /** Puts a text behind THE TEXT, and cuts off the signs that sign() brings too many. */
    static void type(LetByTheDegree x, String s) {
        int ahead = x.count(12);
        for (int k = 0; k < s.length(); k += 4) {
            int v = 0;
            for (int i = 0; i < 4; i++) {
                v = v << 8 | (k + i < s.length() ? s.charAt(k + i) : 0);
            }
            x.sign(v);
        }
        x.end(ahead + s.length());
    }

    static int house(LetByTheDegree x, String s) {
        type(x, s);
        return x.house();
    }

    static int people(LetByTheDegree x, String s) {
        type(x, s);
        return x.people();
    }

    static int rule(LetByTheDegree x, String s) {
        type(x, s);
        return x.rule();
    }

    static int winter(LetByTheDegree x, String s) {
        type(x, s);
        return x.winter();
    }

    static LetByTheDegree of(String house, String people) {
        LetByTheDegree x = new LetByTheDegree();
        is("house() of " + house, house(x, house) > 0, true);
        is("people() of " + people, people(x, people) >= 0, true);
        return x;
    }

    /** With FROST 0, by which alone floors can give. */
    static LetByTheDegree thin(String house, String people) {
        LetByTheDegree x = of(house, people);
        x.set(1, 0);
        return x;
    }
}
