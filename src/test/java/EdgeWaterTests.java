/** The edges of promises 34 to 41: water, thaws, what is kept, what is told. */
public final class EdgeWaterTests {
    public static void main(String[] args) {
        water();
        thawValues();
        thawRefused();
        leave();
        seasonDraws();
        seasonTold();
        keep();
        again();
        count();
        row();
        Due.end();
    }

    private static void water() {
        Edge.of(34, "ICE, WATER, THE POND together; the ROW: ICE, WATER, THE POND",
            "none of all, each of them alone, all of nine rooms");
        Edge.asks(LetByTheDegree::new, "water()", 0, o -> o.water(), 0, 0, 0);
        LetByTheDegree x = Due.thin("9,9", "");
        Due.rule(x, "i");
        Due.asks(x, "water()", 18, () -> x.water(), 18, 0, 0);
        x.hour();
        Due.asks(x, "water()", 18, () -> x.water(), 0, 18, 0);
        x.hour();
        Due.asks(x, "water()", 18, () -> x.water(), 0, 0, 18);
        LetByTheDegree y = Due.of("99,99,99/99,99,99/99,99,99", "");
        Due.asks(y, "water()", 891, () -> y.water(), 891, 0, 0);
    }

    /** The floor stands an HOUR without a thaw, and gives in one with it. */
    private static LetByTheDegree thin() {
        LetByTheDegree x = Due.of("1", "a1:999999");
        x.water();
        return x;
    }

    private static void thawValues() {
        Edge.of(35, "it STANDS for n HOURS (1 .. 8)", "1 HOUR, 8");
        Edge.asks(EdgeWaterTests::thin, "thaw(1, 3)", 0, o -> o.thaw(1, 3), 7, 10);
        Edge.asks(EdgeWaterTests::thin, "thaw(7, 9)", 0, o -> o.thaw(7, 9), 1, 10000000);
        Edge.asks(EdgeWaterTests::thin, "thaw(8, 9)", 0, o -> o.thaw(8, 9), 1, 100000000);
        Edge.asks(EdgeWaterTests::thin, "thaw(8, 1)", 0, o -> o.thaw(8, 1), 43046721, 100000000);
        LetByTheDegree late = thin();
        Due.rule(late, "99*(h=7)");
        Due.asks(late, "thaw(7, 10)", 0, () -> late.thaw(7, 10), 1, 1);
        Due.asks(late, "thaw(8, 10), which gives in the last", 0, () -> late.thaw(8, 10), 0, 1);
        Due.rule(late, "99*(h=8)");
        Due.asks(late, "thaw(8, 10), which would give in the next", 0, () -> late.thaw(8, 10), 1, 1);

        Edge.of(35, "FROST is 0 by p tenths (0 .. 10), else as it is: 0; the ROW: the fraction",
            "never, always; 0 and 1; in lowest terms; FROST 0 already");
        Edge.asks(EdgeWaterTests::thin, "thaw(1, 0)", 0, o -> o.thaw(1, 0), 1, 1);
        Edge.asks(EdgeWaterTests::thin, "thaw(8, 0)", 0, o -> o.thaw(8, 0), 1, 1);
        Edge.asks(EdgeWaterTests::thin, "thaw(1, 10)", 0, o -> o.thaw(1, 10), 0, 1);
        Edge.asks(EdgeWaterTests::thin, "thaw(8, 10)", 0, o -> o.thaw(8, 10), 0, 1);
        Edge.asks(EdgeWaterTests::thin, "thaw(1, 1)", 0, o -> o.thaw(1, 1), 9, 10);
        Edge.asks(EdgeWaterTests::thin, "thaw(1, 5)", 0, o -> o.thaw(1, 5), 1, 2);
        Edge.asks(EdgeWaterTests::thin, "thaw(8, 5)", 0, o -> o.thaw(8, 5), 1, 256);
        Edge.asks(EdgeWaterTests::thin, "thaw(8, 2)", 0, o -> o.thaw(8, 2), 65536, 390625);
        for (int p = 0; p <= 10; p += 5) {
            LetByTheDegree x = thin();
            x.set(1, 0);
            int tenths = p;
            Due.asks(x, "thaw(1, " + p + ") by FROST 0", 0, () -> x.thaw(1, tenths), 0, 1);
        }
        Edge.asks(Edge::bare, "thaw(8, 10) without ICE", 0, o -> o.thaw(8, 10), 1, 1);
        Edge.asks(Edge::homeless, "thaw(8, 10) without a house", 0, o -> o.thaw(8, 10), 1, 1);
    }

    private static void thawRefused() {
        Edge.of(35, "NONE: others.", "n 0, 9; p -1, 11");
        int[][] wrong = {{0, 5}, {-1, 5}, {9, 5}, {1, -1}, {8, 11}, {0, 11}, {Integer.MAX_VALUE, 5}, {1, Integer.MIN_VALUE}};
        for (int[] w : wrong) {
            Edge.leaves(Edge::busy, "thaw(" + w[0] + ", " + w[1] + ")", -1, o -> o.thaw(w[0], w[1]));
        }
    }

    private static void leave() {
        Edge.of(36, "The most HOURS (0 .. 8) for which that is v (0 .. 100) in 100 or more, and for each fewer, too.",
            "none, 1, 7, 8; just v in 100, one more; v 0, 100; p 0, 10");
        int[][] want = {{0, 0, 8}, {0, 100, 8}, {10, 0, 8}, {10, 1, 0}, {10, 100, 0}, {5, 100, 0}, {5, 51, 0}, {5, 50, 1},
            {5, 26, 1}, {5, 25, 2}, {5, 2, 5}, {5, 1, 6}, {5, 0, 8}, {1, 90, 1}, {1, 91, 0}, {1, 81, 2}, {1, 82, 1}, {1, 48, 6},
            {1, 47, 7}, {1, 44, 7}, {1, 43, 8}, {9, 10, 1}, {9, 11, 0}, {9, 1, 2}, {9, 2, 1}};
        for (int[] w : want) {
            Edge.leaves(EdgeWaterTests::thin, "leave(" + w[0] + ", " + w[1] + ")", w[2], o -> o.leave(w[0], w[1]));
        }
        Edge.leaves(Edge::homeless, "leave(10, 100)", 8, o -> o.leave(10, 100));

        Edge.of(36, "NONE: others.", "p -1, 11; v -1, 101");
        int[][] wrong = {{-1, 50}, {11, 50}, {5, -1}, {5, 101}, {Integer.MIN_VALUE, 0}, {0, Integer.MAX_VALUE}, {-1, 101}};
        for (int[] w : wrong) {
            Edge.leaves(Edge::busy, "leave(" + w[0] + ", " + w[1] + ")", -1, o -> o.leave(w[0], w[1]));
        }
    }

    // ---- the season

    /** What melts is FROST, and all of it is ICE again: what melted in all is the sum of the DRAWS of 10. */
    private static LetByTheDegree frosts() {
        LetByTheDegree x = Due.of("99", "");
        Due.rule(x, "f");
        x.hour();
        return x;
    }

    /** 1 melts in each HOUR in which a DRAW of 5 and 3 tells of one of PEOPLE. */
    private static LetByTheDegree five() {
        LetByTheDegree x = Due.of("99", Edge.lines(5, "000000"));
        Due.rule(x, "w>0");
        x.hour();
        return x;
    }

    private static void seasonDraws() {
        // The sums were told by the document's DRAWS alone, by numbers that don't wrap around.
        Edge.of(37, "(as ints; R is seed at first), (R without sign, by 65536) % n",
            "seeds 0, 1, -1, the greatest, the least; 1 HOUR, 2, 60");
        int[] seeds = {0, 1, -1, Integer.MAX_VALUE, Integer.MIN_VALUE};
        int[] n = {1, 2, 60};
        int[][] sums = {{0, 6, 279}, {8, 11, 272}, {7, 9, 298}, {9, 9, 280}, {8, 16, 287}};
        int[][] warm = {{1, 1, 36}, {0, 1, 31}, {1, 1, 43}, {1, 1, 43}, {1, 1, 36}};
        for (int s = 0; s < seeds.length; s++) {
            int seed = seeds[s];
            for (int k = 0; k < n.length; k++) {
                int hours = n[k];
                String call = "season(" + seed + ", " + hours + ")";
                Edge.asks(EdgeWaterTests::frosts, call, 0, o -> o.season(seed, hours), sums[s][k], -1, 0);
                Edge.asks(EdgeWaterTests::five, call + " of five", 0, o -> o.season(seed, hours), warm[s][k], -1, 0);
            }
        }

        Edge.of(37, "n HOURS (1 .. 60) from now", "0, 61");
        for (int k : new int[] {0, -1, 61, Integer.MAX_VALUE, Integer.MIN_VALUE}) {
            Edge.leaves(Edge::busy, "season(1, " + k + ")", -1, o -> o.season(1, k));
        }
    }

    private static void seasonTold() {
        Edge.of(37, "who is WARM 9 in it (as it was behind that; none: nobody)",
            "the first and the last of five; WARM 9 already; one who is OUT; nobody");
        // By seed 0 the second DRAW of 8 is 4, by seed 2147483647 it is 1.
        int[] seeds = {0, Integer.MAX_VALUE};
        int[] who = {4, 1};
        for (int k = 0; k < 2; k++) {
            for (int p = 0; p < 5; p++) {
                LetByTheDegree x = Due.of("99,99", Edge.lines(5, "000000"));
                x.move(p, 1);
                Due.rule(x, "w*(n=1)");
                int seed = seeds[k];
                Due.asks(x, "season(" + seed + ", 1), room 1 of " + p, 0, () -> x.season(seed, 1), p == who[k] ? 9 : 0, -1, 0);
            }
        }
        LetByTheDegree y = Due.of("99", Edge.lines(5, "900000"));
        Due.rule(y, "w");
        Due.asks(y, "season(0, 1), WARM 9 already", 0, () -> y.season(0, 1), 45, -1, 0);
        LetByTheDegree z = Due.thin("99,0", "a1:000000;a1:000000;a1:000000;a1:000000;b1:000000");
        z.hour();
        Due.rule(z, "w");
        Due.asks(z, "season(0, 1), the last OUT", 0, () -> z.season(0, 1), 0, 1, 1);

        Edge.of(37, "how many FELL (each time); the ROW: what melted in all, the room that GAVE in the most HOURS (the first; NONE), in how many",
            "five through three storeys; all rooms alike; the last room alone; none");
        LetByTheDegree falls = Due.of("0/0/0", Edge.lines(5, "000000"));
        Due.asks(falls, "season(1, 1)", 15, () -> falls.season(1, 1), 0, 0, 1);
        Due.asks(falls, "season(1, 60)", 15, () -> falls.season(1, 60), 0, 0, 60);
        LetByTheDegree last = Due.of("9,9/9,0", "");
        Due.rule(last, "0");
        Due.asks(last, "season(1, 60)", 0, () -> last.season(1, 60), 0, 4, 60);
        LetByTheDegree none = Due.of("9,9/9,9", "");
        Due.rule(none, "0");
        Due.asks(none, "season(1, 60)", 0, () -> none.season(1, 60), 0, -1, 0);
        Edge.asks(Edge::homeless, "season(1, 60) without a house", 0, o -> o.season(1, 60), 0, -1, 0);
    }

    // ---- kept

    private static void keep() {
        Edge.of(38, "are kept under a number 0 .. 1: true", "0, 1, each for itself, twice, without a house");
        LetByTheDegree x = Due.thin("9/9", "a1:888888");
        Due.is("keep(0)", x.keep(0), true);
        x.hours(2);
        Due.is("keep(1)", x.keep(1), true);
        x.hour();
        Due.is("again(0)", x.again(0), true);
        Edge.counts(x, 8, 0);
        Edge.room(x, 0, 9, 0);
        Due.is("again(1)", x.again(1), true);
        Edge.counts(x, 8, 2);
        Edge.room(x, 0, 1, 4);
        Due.is("keep(0) again", x.keep(0), true);
        x.hour();
        Due.is("again(0)", x.again(0), true);
        Edge.counts(x, 8, 2);
        Due.is("again(0), once more", x.again(0), true);
        LetByTheDegree y = new LetByTheDegree();
        Due.is("keep(1) without a house", y.keep(1), true);
        y.hours(5);
        Due.is("again(1) without a house", y.again(1), true);
        Edge.counts(y, 8, 0);

        Edge.of(38, "Refused: others.", "-1, 2");
        for (int i : new int[] {-1, 2, Integer.MAX_VALUE, Integer.MIN_VALUE}) {
            Edge.leaves(Edge::busy, "keep(" + i + ")", 0, o -> o.keep(i) ? 1 : 0);
        }
    }

    private static void again() {
        Edge.of(39, "They are as they were kept under a number.",
            "all of them; HEAT, PRICE, WARM, THE RULE, the ROW are not kept");
        LetByTheDegree x = Edge.busy();
        x.end(0);
        String ahead = Due.world(x) + x.water() + Due.rowOf(x);
        x.keep(1);
        Due.is("winter()", Due.winter(x, "f0;h9;m0b2;m1a1;sb2;h9"), 6);
        x.pay(0, 9);
        x.sheet(2, 4, 77, 0);
        Due.is("again(1)", x.again(1), true);
        Due.is("whether all is as it was", (Due.world(x) + x.water() + Due.rowOf(x)).equals(ahead), true);
        LetByTheDegree y = Edge.busy();
        y.keep(0);
        y.set(0, 8);
        y.set(2, 7);
        y.doing(0, 0, 9);
        y.end(0);
        Due.rule(y, "1");
        Due.is("again(0)", y.again(0), true);
        Edge.counts(y, 5, 8, 2, 7);
        Due.is("doing(0, 0, 0)", y.doing(0, 0, 0), 9);
        Edge.room(y, 0, 10, 0, 0, 1);
        Due.row(y, 26, 2, 0);

        Edge.of(39, "Refused: nothing kept, PEOPLE came since.",
            "never kept, the other kept, -1, 2; one came, none came; a house anew");
        Edge.leaves(LetByTheDegree::new, "again(0)", 0, o -> o.again(0) ? 1 : 0);
        for (int i : new int[] {1, -1, 2, Integer.MAX_VALUE, Integer.MIN_VALUE}) {
            Edge.leaves(Edge::busy, "again(" + i + ")", 0, o -> o.again(i) ? 1 : 0);
        }
        Edge.leaves(EdgeWaterTests::joined, "again(0), as one came", 0, o -> o.again(0) ? 1 : 0);
        Edge.leaves(EdgeWaterTests::moved, "again(0), by a house anew", 0, o -> o.again(0) ? 1 : 0);
        LetByTheDegree z = Edge.busy();
        z.end(0);
        Due.is("people() of nothing", Due.people(z, ""), 0);
        Due.is("people() that can't be read", Due.people(z, "a1:12345"), -9);
        Due.is("house() that can't be read", Due.house(z, "1,"), -3);
        Due.is("again(0), as none came", z.again(0), true);
    }

    private static LetByTheDegree joined() {
        LetByTheDegree x = Edge.busy();
        x.end(0);
        Due.people(x, "a1:000000");
        x.hour();
        return x;
    }

    private static LetByTheDegree moved() {
        LetByTheDegree x = Edge.busy();
        x.end(0);
        Due.house(x, "10,4/6,8");
        x.hour();
        return x;
    }

    // ---- told

    private static void count() {
        Edge.of(40, "-100 for another what", "-1, 13");
        for (int what : new int[] {-1, 13, Integer.MAX_VALUE, Integer.MIN_VALUE}) {
            Edge.leaves(Edge::busy, "count(" + what + ")", -100, o -> o.count(what));
        }
        int[] busy = {2, 2, 2, 0, 1, 4, 2, 3, 1, 0, 3, 3, 4};
        for (int what = 0; what < busy.length; what++) {
            int w = what;
            Edge.leaves(Edge::busy, "count(" + what + ")", busy[what], o -> o.count(w));
        }

        Edge.of(40, "3: those that are OUT (bits), 4: the room of THE STOVE (NONE)",
            "none, all five; the first room, the last, nowhere");
        LetByTheDegree x = Due.thin("0,9,9/9,9,9/0,9,9", "a3:000000;a3:000000;a3:000000;a3:000000;a3:000000");
        Edge.counts(x, 3, 0, -1);
        x.hour();
        Edge.counts(x, 3, 31);
        x.stove(0);
        Edge.counts(x, 4, 0);
        x.stove(8);
        Edge.counts(x, 4, 8);

        Edge.of(40, "9: ROOMS with ICE 0 (bits)",
            "none, all nine, the first and the last; rooms that are not there are not among them");
        LetByTheDegree y = Due.of("1,1,1/1,1,1/1,1,1", "");
        Edge.counts(y, 9, 0);
        y.sheet(3, 0, 0, 0);
        Edge.counts(y, 9, 511);
        y.sheet(2, 8, 0, 1);
        Edge.counts(y, 9, 1 | 256);
        Edge.counts(Edge.bare(), 9, 1 | 2 | 8 | 16);
        Edge.counts(new LetByTheDegree(), 9, 0);

        Edge.of(40, "10: what can be undone, 11: numbers of the ROW, 12: signs of THE TEXT", "none; twelve, five, 80");
        LetByTheDegree z = new LetByTheDegree();
        Edge.counts(z, 10, 0, 0, 0);
        Due.house(z, "9");
        Due.people(z, Edge.lines(5, "000000"));
        for (int k = 0; k < 13; k++) {
            z.hour();
        }
        z.charges(0);
        Due.type(z, "x".repeat(80));
        Edge.counts(z, 10, 12, 5, 80);
    }

    private static void row() {
        Edge.of(41, "Number i of the ROW. NoSuchElementException: none such.",
            "of none, one, five: the first, the last, one less, one more");
        for (int n = 0; n <= 5; n++) {
            LetByTheDegree x = Due.of("9", Edge.lines(n, "123456"));
            x.charges(2);
            Edge.counts(x, 11, n);
            for (int i = 0; i < n; i++) {
                Due.is("row(" + i + ") of " + n, x.row(i), 3);
            }
            for (int i : new int[] {-1, n, n + 1, Integer.MAX_VALUE, Integer.MIN_VALUE}) {
                Due.throwsNone("row(" + i + ") of " + n, () -> x.row(i));
            }
        }
        LetByTheDegree y = new LetByTheDegree();
        Due.throwsNone("row(0) of a new object", () -> y.row(0));
        // A shorter ROW leaves nothing of a longer one.
        y.water();
        y.drips(0);
        Due.row(y, -1, 0);
        Due.throwsNone("row(2)", () -> y.row(2));
        y.lodge(1);
        Due.throwsNone("row(0)", () -> y.row(0));
    }
}
