/** The edges of promises 19 to 26: hours to come, who lives where. */
public final class EdgeToComeTests {
    public static void main(String[] args) {
        thick();
        givesWhen();
        givesWhat();
        drips();
        coldest();
        lodgeHours();
        lodgePeople();
        longestHours();
        longestPeople();
        quietHowMany();
        quietWhich();
        burden();
        Due.end();
    }

    /** A house of one room with 99 ICE that melts by a rule, with FROST 0. */
    private static LetByTheDegree melting(String rule) {
        LetByTheDegree x = Due.thin("99", "a1:000000");
        Due.rule(x, rule);
        x.water();
        return x;
    }

    // ---- hours to come

    private static void thick() {
        Edge.of(19, "ICE of a room in n HOURS (0 .. 100); the ROW: WATER on it, THE POND then.", "none, one, 99, 100");
        Edge.asks(() -> melting("1"), "thick(0, 0)", 99, o -> o.thick(0, 0), 0, 0);
        Edge.asks(() -> melting("1"), "thick(0, 1)", 98, o -> o.thick(0, 1), 1, 0);
        Edge.asks(() -> melting("1"), "thick(0, 98)", 1, o -> o.thick(0, 98), 1, 97);
        Edge.asks(() -> melting("1"), "thick(0, 99)", 0, o -> o.thick(0, 99), 1, 98);
        Edge.asks(() -> melting("1"), "thick(0, 100)", 0, o -> o.thick(0, 100), 0, 99);
        Edge.asks(Edge::busy, "thick(4, 0), the last room, WATER on it", 6, o -> o.thick(4, 0), 2, 0);

        Edge.of(19, "-2: another n; -3: none such.", "-1, 101; rooms beside the house; both");
        for (int n : new int[] {-1, 101, Integer.MAX_VALUE, Integer.MIN_VALUE}) {
            Edge.leaves(Edge::busy, "thick(0, " + n + ")", -2, o -> o.thick(0, n));
            Edge.leaves(Edge::busy, "thick(2, " + n + ")", -2, o -> o.thick(2, n));
        }
        for (int r : new int[] {-1, 2, 5, 6, 9, Integer.MAX_VALUE, Integer.MIN_VALUE}) {
            Edge.leaves(Edge::busy, "thick(" + r + ", 0)", -3, o -> o.thick(r, 0));
            Edge.leaves(Edge::busy, "thick(" + r + ", 100)", -3, o -> o.thick(r, 100));
        }
        Edge.leaves(Edge::homeless, "thick(0, 0) without a house", -3, o -> o.thick(0, 0));
    }

    private static void givesWhen() {
        Edge.of(20, "In how many HOURS (1 .. 100) a room with ICE now has 0 first: how many", "1, 99, 100");
        Edge.asks(() -> melting("99"), "gives() in the 1st", 1, o -> o.gives(), 0, 1);
        Edge.asks(() -> melting("1"), "gives() in the 99th", 99, o -> o.gives(), 0, 1);
        Edge.asks(() -> melting("h>0"), "gives() in the 100th", 100, o -> o.gives(), 0, 1);

        Edge.of(20, "-2: none in these.", "in the 101st, never; no room with ICE, no ROOMS");
        Edge.leaves(() -> melting("h>1"), "gives() in the 101st", -2, o -> o.gives());
        Edge.leaves(() -> melting("0"), "gives() never", -2, o -> o.gives());
        Edge.leaves(Edge::bare, "gives() without ICE", -2, o -> o.gives());
        Edge.leaves(Edge::homeless, "gives() without ROOMS", -2, o -> o.gives());
    }

    private static void givesWhat() {
        Edge.of(20, "a room with ICE now has 0 first", "a room with ICE 0 now doesn't count, whoever falls from it");
        LetByTheDegree x = Due.thin("0,2,5/9,9,9", "a1:000000;b1:222222;c1:444444");
        Due.asks(x, "gives()", 2, () -> x.gives(), 1, 2);
        x.hour();
        Due.asks(x, "gives()", 1, () -> x.gives(), 1, 2);
        x.hour();
        Due.asks(x, "gives()", 1, () -> x.gives(), 2, 4);

        Edge.of(20, "(of several the first), PEOPLE that FALL in that HOUR (bits)",
            "three floors at once; all who FALL in it, from whichever floor; none");
        LetByTheDegree y = Due.thin("9,2,2/0,2,9", "b1:444444;c1:444444;b2:444444;a2:000000;a1:000000");
        Due.asks(y, "gives()", 1, () -> y.gives(), 1, 15);
        LetByTheDegree z = Due.thin("5", "");
        z.stove(0);
        Due.asks(z, "gives() with nobody", 3, () -> z.gives(), 0, 0);
    }

    private static void drips() {
        Edge.of(21, "What drips to THE POND in n HOURS (0 .. 100): how much", "none, one, two, 100; from HOURS to come alone");
        Edge.asks(() -> melting("1"), "drips(0)", 0, o -> o.drips(0), 0, 99);
        Edge.asks(() -> melting("1"), "drips(1)", 0, o -> o.drips(1), 0, 98);
        Edge.asks(() -> melting("1"), "drips(2)", 1, o -> o.drips(2), 0, 97);
        Edge.asks(() -> melting("1"), "drips(100)", 99, o -> o.drips(100), 0, 0);
        LetByTheDegree x = melting("1");
        x.hours(10);
        Due.asks(x, "drips(100) behind 10 HOURS", 90, () -> x.drips(100), 0, 0);

        Edge.of(21, "the room with the most ICE then (of equal ones the first; NONE), how much (0 without)",
            "all alike, the last, ICE 0 everywhere; no ROOMS");
        LetByTheDegree y = Due.thin("5,5/5,5", "a1:222222");
        Due.asks(y, "drips(0)", 0, () -> y.drips(0), 0, 5);
        Due.asks(y, "drips(1)", 0, () -> y.drips(1), 1, 5);
        y.sheet(2, 4, 1, 1);
        Due.asks(y, "drips(0)", 0, () -> y.drips(0), 4, 4);
        Edge.asks(Edge::bare, "drips(0) without ICE", 0, o -> o.drips(0), 0, 0);
        Edge.asks(Edge::homeless, "drips(0) without ROOMS", 0, o -> o.drips(0), -1, 0);
        Edge.asks(Edge::homeless, "drips(100) without ROOMS", 0, o -> o.drips(100), -1, 0);

        Edge.of(21, "NONE: another n.", "-1, 101");
        for (int n : new int[] {-1, 101, Integer.MAX_VALUE, Integer.MIN_VALUE}) {
            Edge.leaves(Edge::busy, "drips(" + n + ")", -1, o -> o.drips(n));
        }
    }

    private static void coldest() {
        Edge.of(22, "The least FROST (0 .. 9) with which it STANDS for n HOURS (1 .. 100): it.",
            "0, 1; 1 HOUR, 100; whatever FROST is now");
        for (int frost : new int[] {0, 2, 9}) {
            Edge.leaves(() -> frosty(frost, "99"), "coldest(1)", 1, o -> o.coldest(1));
            Edge.leaves(() -> frosty(frost, "99*(h>0)"), "coldest(1)", 0, o -> o.coldest(1));
            Edge.leaves(() -> frosty(frost, "99*(h>0)"), "coldest(2)", 1, o -> o.coldest(2));
            Edge.leaves(() -> frosty(frost, "99*(h=99)"), "coldest(99)", 0, o -> o.coldest(99));
            Edge.leaves(() -> frosty(frost, "99*(h=99)"), "coldest(100)", 1, o -> o.coldest(100));
            Edge.leaves(() -> frosty(frost, "99*(h=100)"), "coldest(100)", 0, o -> o.coldest(100));
        }
        Edge.leaves(Edge::homeless, "coldest(100) without a house", 0, o -> o.coldest(100));

        // With FROST of what has melted some is ICE again ahead of giving, so that some FROST always does.
        Edge.of(22, "-2: with none", "it can't come about: whatever melts, FROST 1 keeps each floor");
        Edge.leaves(() -> frosty(0, "99"), "coldest(100)", 1, o -> o.coldest(100));
        Edge.leaves(() -> frosty(0, "999*(f<1)+999*(f>0)"), "coldest(100)", 1, o -> o.coldest(100));

        Edge.of(22, "NONE: another n.", "0, 101");
        for (int n : new int[] {0, -1, 101, Integer.MAX_VALUE, Integer.MIN_VALUE}) {
            Edge.leaves(Edge::busy, "coldest(" + n + ")", -1, o -> o.coldest(n));
        }
    }

    private static LetByTheDegree frosty(int frost, String rule) {
        LetByTheDegree x = Due.of("9,1/5,0", "a1:999999");
        Due.rule(x, rule);
        x.set(1, frost);
        x.water();
        return x;
    }

    // ---- who lives where

    private static LetByTheDegree lodgers(String house, int n, String rule) {
        LetByTheDegree x = Due.thin(house, Edge.lines(n, "222222"));
        Due.rule(x, rule);
        x.water();
        return x;
    }

    private static void lodgeHours() {
        Edge.of(23, "so that it STANDS for n HOURS (1 .. 40): how many",
            "1 HOUR, 40; a floor that gives in the last of them, in the next");
        Edge.asks(() -> lodgers("1", 1, "1"), "lodge(1) on ICE 1", 0, o -> o.lodge(1));
        Edge.asks(() -> lodgers("2", 1, "1"), "lodge(1) on ICE 2", 1, o -> o.lodge(1), 0);
        Edge.asks(() -> lodgers("40", 1, "1"), "lodge(39) on ICE 40", 1, o -> o.lodge(39), 0);
        Edge.asks(() -> lodgers("40", 1, "1"), "lodge(40) on ICE 40", 0, o -> o.lodge(40));
        Edge.asks(() -> lodgers("41", 1, "1"), "lodge(40) on ICE 41", 1, o -> o.lodge(40), 0);

        // The one room whose floor gives may be any of nine.
        for (int r = 0; r < 9; r++) {
            StringBuilder b = new StringBuilder();
            for (int k = 0; k < 9; k++) {
                b.append(k == 0 ? "" : k % 3 == 0 ? "/" : ",").append(k == r ? 1 : 9);
            }
            String house = b.toString();
            Edge.asks(() -> lodgers(house, 1, "w/2"), "lodge(1), not in " + r, 8, o -> o.lodge(1), r == 0 ? 1 : 0);
            Edge.asks(() -> lodgers(house, 1, "1"), "lodge(1), by room " + r, 0, o -> o.lodge(1));
            Edge.asks(() -> lodgers(house, 1, "1"), "longest(), by room " + r, 0, o -> o.longest(), 0);
            Edge.leaves(() -> lodgers(house, 1, "1"), "quiet(1), by room " + r, -2, o -> o.quiet(1));
        }

        Edge.of(23, "NONE: another n.", "0, 41");
        for (int n : new int[] {0, -1, 41, Integer.MAX_VALUE, Integer.MIN_VALUE}) {
            Edge.leaves(Edge::busy, "lodge(" + n + ")", -1, o -> o.lodge(n));
        }
    }

    private static void lodgePeople() {
        Edge.of(23, "How many ways there are to let PEOPLE that are in ROOMS live in unlike ROOMS from now on",
            "nobody, one, as many as ROOMS, one more, four in nine");
        Edge.asks(() -> lodgers("9,9", 0, "0"), "lodge(1) of nobody", 1, o -> o.lodge(1));
        Edge.asks(Edge::homeless, "lodge(40) without a house", 1, o -> o.lodge(40));
        Edge.asks(() -> lodgers("9,9", 1, "0"), "lodge(1) of one", 2, o -> o.lodge(1), 0);
        Edge.asks(() -> lodgers("9,9", 2, "0"), "lodge(1) of two", 2, o -> o.lodge(1), 0, 1);
        Edge.asks(() -> lodgers("9,9", 3, "0"), "lodge(1) of three in two", 0, o -> o.lodge(1));
        Edge.asks(() -> lodgers("9,9/9,9", 4, "0"), "lodge(1) of four in four", 24, o -> o.lodge(1), 0, 1, 3, 4);
        Edge.asks(() -> lodgers("9", 4, "0"), "lodge(1) of four in one", 0, o -> o.lodge(1));
        Edge.asks(() -> lodgers("9,9,9/9,9,9/9,9,9", 4, "0"), "lodge(1) of four in nine", 3024, o -> o.lodge(1), 0, 1, 2, 3);

        Edge.of(23, "the least row of ROOMS, by these PEOPLE (none without)",
            "one way only, by the last room; none; one who is OUT is not told");
        Edge.asks(() -> lodgers("1,1/1,9", 1, "w/2"), "lodge(1)", 1, o -> o.lodge(1), 4);
        Edge.asks(() -> lodgers("1,1/1,1", 1, "w/2"), "lodge(1)", 0, o -> o.lodge(1));
        LetByTheDegree x = Due.thin("0,9", "b1:000000;a1:000000;b1:000000");
        x.hour();
        Due.asks(x, "lodge(1)", 2, () -> x.lodge(1), 0, 1);

        Edge.of(23, "-3: more than 4 are", "four, five; five of whom one is OUT");
        Edge.leaves(() -> lodgers("9,9,9/9,9,9", 5, "0"), "lodge(1) of five", -3, o -> o.lodge(1));
        Edge.leaves(() -> lodgers("9", 5, "0"), "lodge(1) of five in one", -3, o -> o.lodge(1));
        Edge.asks(EdgeToComeTests::fiveOneOut, "lodge(1) of five, one OUT", 24, o -> o.lodge(1), 0, 1, 3, 4);
    }

    private static LetByTheDegree fiveOneOut() {
        LetByTheDegree x = Due.thin("9,9/9,0", "a1:000000;a1:000000;b2:000000;a1:000000;a1:000000");
        x.hour();
        return x;
    }

    private static void longestHours() {
        Edge.of(24, "For how many HOURS (100 at most) it STANDS, if they live the best: the most",
            "none, one, 98, 99, 100; a floor that gives in the 101st");
        Edge.asks(() -> lodgers("1", 1, "1"), "longest()", 0, o -> o.longest(), 0);
        Edge.asks(() -> lodgers("2", 1, "1"), "longest()", 1, o -> o.longest(), 0);
        Edge.asks(() -> lodgers("99", 1, "1"), "longest()", 98, o -> o.longest(), 0);
        Edge.asks(() -> lodgers("99", 1, "h>0"), "longest()", 99, o -> o.longest(), 0);
        Edge.asks(() -> lodgers("99", 1, "h>1"), "longest()", 100, o -> o.longest(), 0);
        Edge.asks(() -> lodgers("99", 1, "0"), "longest()", 100, o -> o.longest(), 0);

        Edge.of(24, "the least row of ROOMS by which it does", "all alike; the last room alone; nobody");
        Edge.asks(() -> lodgers("9,9/9,9", 3, "0"), "longest()", 100, o -> o.longest(), 0, 1, 3);
        Edge.asks(() -> lodgers("9,9/9,10", 1, "w/2"), "longest()", 9, o -> o.longest(), 4);
        Edge.asks(() -> lodgers("9", 0, "1"), "longest() of nobody", 8, o -> o.longest());
        Edge.asks(Edge::homeless, "longest() without a house", 100, o -> o.longest());
    }

    private static void longestPeople() {
        Edge.of(24, "-2: there are fewer ROOMS than such PEOPLE; -3: more than 4 are.",
            "as many, one more; four, five; both; one who is OUT");
        Edge.asks(() -> lodgers("9", 1, "0"), "longest() of one in one", 100, o -> o.longest(), 0);
        Edge.leaves(() -> lodgers("9", 2, "0"), "longest() of two in one", -2, o -> o.longest());
        Edge.asks(() -> lodgers("9,9/9,9", 4, "0"), "longest() of four in four", 100, o -> o.longest(), 0, 1, 3, 4);
        Edge.leaves(() -> lodgers("9,9,9", 4, "0"), "longest() of four in three", -2, o -> o.longest());
        Edge.leaves(() -> lodgers("9,9,9/9,9,9", 5, "0"), "longest() of five in six", -3, o -> o.longest());
        Edge.leaves(() -> lodgers("9,9/9,9", 5, "0"), "longest() of five in four, for which both hold", -2, o -> o.longest());
        Edge.asks(EdgeToComeTests::fiveOneOut, "longest() of five, one OUT", 100, o -> o.longest(), 0, 1, 3, 4);
    }

    /** Each warmth in the first HOURS costs a floor at once. */
    private static LetByTheDegree warm(String house, String people) {
        LetByTheDegree x = Due.thin(house, people);
        Due.rule(x, "w*9");
        x.water();
        return x;
    }

    private static void quietHowMany() {
        Edge.of(25, "The fewest DOINGS (one of PEOPLE, HOUR of the cycle: WARM 0 from now on) to be left off, 3 at most",
            "none, one, two, three, four of them needed");
        Edge.asks(() -> warm("9", "a1:000000"), "quiet(40)", 0, o -> o.quiet(40));
        Edge.asks(() -> warm("9", "a1:100000"), "quiet(40)", 1, o -> o.quiet(40), 0);
        Edge.asks(() -> warm("9", "a1:100001"), "quiet(40)", 2, o -> o.quiet(40), 0, 5);
        Edge.asks(() -> warm("9", "a1:101001"), "quiet(40)", 3, o -> o.quiet(40), 0, 2, 5);
        Edge.leaves(() -> warm("9", "a1:101101"), "quiet(40)", -2, o -> o.quiet(40));
        Edge.asks(() -> warm("9,9", "a1:100000;b1:000011"), "quiet(40)", 3, o -> o.quiet(40), 0, 10, 11);
        Edge.leaves(() -> warm("9,9", "a1:100100;b1:000011"), "quiet(40)", -2, o -> o.quiet(40));
        Edge.asks(Edge::homeless, "quiet(40) without a house", 0, o -> o.quiet(40));

        Edge.of(25, "-2: not by 3", "a floor that gives whatever is left off");
        Edge.leaves(() -> melting("9"), "quiet(40)", -2, o -> o.quiet(40));
        LetByTheDegree stove = warm("9", "a1:000000");
        stove.stove(0);
        Due.leaves(stove, "quiet(1), by the stove", -2, () -> stove.quiet(1));

        Edge.of(25, "so that it STANDS for n HOURS (1 .. 40)", "1 HOUR, 40; what is warm in the last of them, in the next");
        Edge.asks(() -> warm("9", "a1:010000"), "quiet(1)", 0, o -> o.quiet(1));
        Edge.asks(() -> warm("9", "a1:010000"), "quiet(2)", 1, o -> o.quiet(2), 1);
        LetByTheDegree late = warm("9", "a1:000000");
        Due.rule(late, "9*(h=39)*(w>0)");
        late.doing(0, 3, 1);
        Due.asks(late, "quiet(39)", 0, () -> late.quiet(39));
        Due.asks(late, "quiet(40)", 1, () -> late.quiet(40), 3);

        Edge.of(25, "HOUR of the cycle: WARM 0 from now on", "NOW within a cycle, its last HOUR, in a later cycle");
        for (int now : new int[] {1, 5, 6, 11, 40}) {
            LetByTheDegree y = warm("9", "a1:111111");
            y.set(1, 9);
            y.hours(now);
            y.set(1, 0);
            Due.asks(y, "quiet(1) in HOUR " + now, 1, () -> y.quiet(1), now % 6);
            y.doing(0, now % 6, 0);
            y.doing(0, (now + 1) % 6, 0);
            Due.asks(y, "quiet(3) in HOUR " + now, 1, () -> y.quiet(3), (now + 2) % 6);
        }

        Edge.of(25, "NONE: another n.", "0, 41");
        for (int n : new int[] {0, -1, 41, Integer.MAX_VALUE, Integer.MIN_VALUE}) {
            Edge.leaves(Edge::busy, "quiet(" + n + ")", -1, o -> o.quiet(n));
        }
    }

    private static void quietWhich() {
        Edge.of(25, "the ROW: 6 times one and HOUR of each, rising: of as few the least row",
            "the first and the last that can be; more ways than one");
        Edge.asks(() -> warm("9,9", "b1:000000;b1:000000;b1:000000;b1:000000;a1:000001"), "quiet(6)", 1, o -> o.quiet(6), 29);
        // Each of three is warm enough with one other that the floor gives: two of them have to be left off.
        LetByTheDegree x = Due.thin("2", Edge.lines(3, "222222"));
        Due.rule(x, "2*(w>2)");
        Due.asks(x, "quiet(1)", 2, () -> x.quiet(1), 0, 6);
        LetByTheDegree y = Due.thin("2", Edge.lines(2, "222222"));
        Due.rule(y, "2*(w>2)");
        Due.asks(y, "quiet(3)", 3, () -> y.quiet(3), 0, 1, 2);
        // By leaving off the second alone it stands, as the third has to be warm.
        LetByTheDegree z = Due.thin("2", "a1:000000;a1:400000;a1:500000");
        Due.rule(z, "2-2*(w=5)");
        Due.asks(z, "quiet(1)", 1, () -> z.quiet(1), 6);
    }

    private static void burden() {
        Edge.of(26, "The one of PEOPLE without whom (OUT from now on) it STANDS the longest (100 at most); of equal ones the first: it",
            "100 with each, 0 with each; the first, the last; one who is OUT already");
        Edge.asks(() -> lodgers("9", 5, "0"), "burden()", 0, o -> o.burden(), 100, 100);
        Edge.asks(() -> lodgers("1", 5, "1"), "burden()", 0, o -> o.burden(), 0, 0);
        Edge.asks(() -> lodgers("99", 1, "n*(h>0)"), "burden()", 0, o -> o.burden(), 100, 99);
        LetByTheDegree x = Due.thin("9,1", "a1:000000;a1:000000;a1:000000;a1:000000;b1:222222");
        Due.asks(x, "burden()", 4, () -> x.burden(), 100, 0);
        LetByTheDegree y = Due.thin("0,9", "a1:000000;b1:000000;b1:000000");
        y.hour();
        Due.asks(y, "burden(), the first OUT", 1, () -> y.burden(), 100, 100);

        Edge.of(26, "-2: nobody is in a ROOM.", "nobody at all; all are OUT");
        Edge.leaves(Edge::bare, "burden()", -2, o -> o.burden());
        Edge.leaves(Edge::homeless, "burden()", -2, o -> o.burden());
        Edge.leaves(EdgeToComeTests::allOut, "burden()", -2, o -> o.burden());
    }

    private static LetByTheDegree allOut() {
        LetByTheDegree x = Due.thin("0", Edge.lines(5, "123456"));
        x.hour();
        return x;
    }
}
