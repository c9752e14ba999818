/** The edges of promises 27 to 33: shares, who was warm, the stove, each as he likes. */
public final class EdgeSharesTests {
    public static void main(String[] args) {
        share();
        charges();
        warmHow();
        warmWhich();
        look();
        carryBeside();
        carryHours();
        carryFalls();
        hearth();
        restsValues();
        restsRefused();
        Due.end();
    }

    /** A house of one storey with PEOPLE and a rule, and a ROW that was told. */
    private static LetByTheDegree house(String house, String people, String rule) {
        LetByTheDegree x = Due.thin(house, people);
        Due.rule(x, rule);
        x.water();
        return x;
    }

    // ---- shares

    private static void share() {
        Edge.of(27, "what MELTS times its WARM by WARMTH: 0; the ROW: the fraction",
            "WARM 0, WARMTH 0, ICE 0; all of it, more than WARM; HEAT has a part");
        Edge.asks(() -> house("99", "a1:000000;a1:300000", "w"), "share(0), WARM 0", 0, o -> o.share(0), 0, 1);
        Edge.asks(() -> house("99", "a1:000000;a1:300000", "w"), "share(1)", 0, o -> o.share(1), 3, 1);
        Edge.asks(() -> house("99", "a1:000000", "7"), "share(0), WARMTH 0", 0, o -> o.share(0), 0, 1);
        Edge.asks(() -> house("0", "a1:900000", "w"), "share(0), ICE 0", 0, o -> o.share(0), 0, 1);
        Edge.asks(() -> house("99", "a1:100000", "99"), "share(0)", 0, o -> o.share(0), 99, 1);
        Edge.asks(() -> house("99", Edge.lines(5, "900000"), "w/2"), "share(4) of five", 0, o -> o.share(4), 22, 5);
        LetByTheDegree x = house("99", "a1:300000", "w");
        x.set(0, 9);
        x.stove(0);
        Due.asks(x, "share(0) of 12 by 12", 0, () -> x.share(0), 3, 1);
        Due.rule(x, "8");
        Due.asks(x, "share(0) of 24 by 12", 0, () -> x.share(0), 2, 1);
        Due.rule(x, "6");
        Due.asks(x, "share(0) of 18 by 12", 0, () -> x.share(0), 3, 2);

        Edge.of(27, "-2: it is OUT; NONE: none such.", "-1, one more than the last, nobody");
        Edge.leaves(EdgeSharesTests::outside, "share(0)", -2, o -> o.share(0));
        for (int p : new int[] {-1, 2, 5, Integer.MAX_VALUE, Integer.MIN_VALUE}) {
            Edge.leaves(Edge::busy, "share(" + p + ")", -1, o -> o.share(p));
        }
        Edge.leaves(Edge::homeless, "share(0)", -1, o -> o.share(0));
    }

    private static LetByTheDegree outside() {
        LetByTheDegree x = Due.thin("0,9", "a1:900000;a1:400000;b1:111111");
        x.hour();
        return x;
    }

    private static void charges() {
        Edge.of(28, "in n HOURS (0 .. 100) by PRICE 1", "none, one, 100; whatever PRICE is, and what each OWES already");
        Edge.asks(() -> house("99", "a1:999999;a1:123456", "0"), "charges(0)", 0, o -> o.charges(0), 0, 0);
        Edge.asks(() -> house("99", "a1:999999;a1:123456", "0"), "charges(1)", 9, o -> o.charges(1), 9, 1);
        Edge.asks(() -> house("99", "a1:999999;a1:123456", "0"), "charges(100)", 900, o -> o.charges(100), 900, 346);
        for (int price : new int[] {0, 1, 9}) {
            LetByTheDegree x = house("99", "a1:222222", "0");
            x.set(2, price);
            x.hours(6);
            Due.asks(x, "charges(100) by PRICE " + price, 200, () -> x.charges(100), 200);
        }

        Edge.of(28, "(as far as they are in ROOMS then)", "one who is OUT, one who is OUT behind an HOUR, nobody");
        Edge.asks(EdgeSharesTests::outside, "charges(100), two OUT", 100, o -> o.charges(100), 0, 0, 100);
        Edge.asks(() -> house("1/0", "a1:456789;a2:987654", "w"), "charges(100)", 9, o -> o.charges(100), 4, 9);
        Edge.asks(Edge::homeless, "charges(100) of nobody", 0, o -> o.charges(100));

        Edge.of(28, "NONE: another n.", "-1, 101");
        for (int n : new int[] {-1, 101, Integer.MAX_VALUE, Integer.MIN_VALUE}) {
            Edge.leaves(Edge::busy, "charges(" + n + ")", -1, o -> o.charges(n));
        }
    }

    // ---- who was warm

    private static void warmHow() {
        Edge.of(29, "would MELT v (0 .. 99) there (THE STOVE where it is): how many",
            "none, one, all 32 sets; v 0, 99; nobody at all");
        Edge.asks(() -> house("99", Edge.lines(5, "000000"), "99"), "warm(0, 99)", 32, o -> o.warm(0, 99), 0, 0);
        Edge.asks(() -> house("99", Edge.lines(5, "000000"), "99"), "warm(0, 98)", 0, o -> o.warm(0, 98), -1, 0);
        Edge.asks(() -> house("99", Edge.lines(5, "000000"), "0"), "warm(0, 0)", 32, o -> o.warm(0, 0), 0, 0);
        Edge.asks(() -> house("99", Edge.lines(5, "900000"), "n*9"), "warm(0, 45)", 1, o -> o.warm(0, 45), 31, 31);
        Edge.asks(() -> house("99", Edge.lines(5, "900000"), "n*9"), "warm(0, 0)", 1, o -> o.warm(0, 0), 0, 0);
        Edge.asks(() -> house("99", Edge.lines(5, "900000"), "n*9"), "warm(0, 36)", 5, o -> o.warm(0, 36), 15, 0);
        Edge.asks(() -> house("99", "", "0"), "warm(0, 0) of nobody", 1, o -> o.warm(0, 0), 0, 0);
        Edge.asks(() -> house("99", "", "0"), "warm(0, 1) of nobody", 0, o -> o.warm(0, 1), -1, 0);
        Edge.asks(Edge::bare, "warm(4, 0) without ICE", 1, o -> o.warm(4, 0), 0, 0);

        Edge.of(29, "NONE: others.", "v -1, 100; rooms that are not there");
        for (int v : new int[] {-1, 100, Integer.MAX_VALUE, Integer.MIN_VALUE}) {
            Edge.leaves(Edge::busy, "warm(0, " + v + ")", -1, o -> o.warm(0, v));
        }
        for (int r : new int[] {-1, 2, 5, 6, 9, Integer.MAX_VALUE, Integer.MIN_VALUE}) {
            Edge.leaves(Edge::busy, "warm(" + r + ", 0)", -1, o -> o.warm(r, 0));
        }
        Edge.leaves(Edge::homeless, "warm(0, 0)", -1, o -> o.warm(0, 0));
    }

    private static void warmWhich() {
        Edge.of(29, "the ROW: the least (bits; NONE), PEOPLE that are in all of them (bits; 0 without)",
            "the last of PEOPLE alone, two in all of them, one who is OUT");
        Edge.asks(() -> house("99", "a1:000000;a1:000000;a1:000000;a1:000000;a1:700000", "w"), "warm(0, 7)", 16, o -> o.warm(0, 7), 16, 16);
        Edge.asks(() -> house("99", "a1:300000;a1:000000;a1:400000", "w"), "warm(0, 7)", 2, o -> o.warm(0, 7), 5, 5);
        Edge.asks(() -> house("99", "a1:300000;a1:300000", "w"), "warm(0, 3)", 2, o -> o.warm(0, 3), 1, 0);
        LetByTheDegree x = Due.thin("0,9", "a1:090000;b1:000000");
        x.hour();
        Due.asks(x, "warm(1, 4), by one who is OUT", 2, () -> x.warm(1, 4), 1, 1);

        Edge.of(29, "(THE STOVE where it is)", "in that room, in another");
        LetByTheDegree y = house("9,9", "a1:100000", "w");
        y.stove(1);
        Due.asks(y, "warm(0, 0)", 1, () -> y.warm(0, 0), 0, 0);
        Due.asks(y, "warm(1, 0)", 0, () -> y.warm(1, 0), -1, 0);
        Due.asks(y, "warm(1, 6)", 1, () -> y.warm(1, 6), 1, 1);
    }

    private static void look() {
        Edge.of(30, "would MELT the most different numbers in HOUR NOW; of equal ones the first: it; the ROW: how many, the greatest of these",
            "one number everywhere, the last room alone, 0 and 99, about 64");
        Edge.asks(() -> house("9,9/9,9", Edge.lines(5, "900000"), "7"), "look()", 0, o -> o.look(), 1, 7);
        Edge.asks(Edge::bare, "look() without ICE", 0, o -> o.look(), 1, 0);
        Edge.asks(() -> house("0,0/0,1", "a1:900000", "w"), "look()", 4, o -> o.look(), 2, 1);
        Edge.asks(() -> house("99,99", "a1:900000", "99*(n>0)"), "look()", 0, o -> o.look(), 2, 99);
        Edge.asks(() -> house("99,99", Edge.lines(4, "900000"), "62+n"), "look()", 0, o -> o.look(), 5, 66);
        Edge.asks(() -> house("99,99", Edge.lines(5, "900000"), "n*16"), "look()", 0, o -> o.look(), 6, 80);
        Edge.asks(() -> house("99,99", Edge.lines(5, "900000"), "64-n*64"), "look()", 0, o -> o.look(), 2, 64);
        Edge.asks(() -> house("1,2,9/9,9,1", "a1:100000;a1:200000", "w"), "look()", 2, o -> o.look(), 4, 3);

        Edge.of(30, "-2: there are no ROOMS.", "and nobody");
        Edge.leaves(Edge::homeless, "look()", -2, o -> o.look());
        Edge.asks(() -> house("9", "", "3"), "look() of nobody", 0, o -> o.look(), 1, 3);
    }

    // ---- the stove

    private static String houseOf(int columns, int storeys, int there) {
        StringBuilder b = new StringBuilder();
        for (int y = 0; y < storeys; y++) {
            for (int x = 0; x < columns; x++) {
                b.append(x > 0 ? "," : y > 0 ? "/" : "").append(3 * y + x == there ? 60 : 20);
            }
        }
        return b.toString();
    }

    /** From each room to each other one, of which one alone costs no ICE. */
    private static void carryBeside() {
        Edge.of(31, "to a room beside it (left, right, above, below) or not",
            "from each room of each house; not round its sides");
        for (int size = 0; size < 9; size++) {
            int columns = size % 3 + 1;
            int storeys = size / 3 + 1;
            for (int from = 0; from < 9; from++) {
                for (int to = 0; to < 9; to++) {
                    if (from % 3 < columns && from / 3 < storeys && to % 3 < columns && to / 3 < storeys) {
                        beside(columns, storeys, from, to);
                    }
                }
            }
        }
    }

    private static void beside(int columns, int storeys, int from, int to) {
        LetByTheDegree x = house(houseOf(columns, storeys, to), "", "w*(i<50)");
        x.stove(from);
        int far = Math.abs(from % 3 - to % 3) + Math.abs(from / 3 - to / 3);
        String call = "carry(1) from " + from + " to " + to + " of " + columns + " by " + storeys;
        Due.is(call, x.carry(1), far <= 1 ? 0 : 5);
        // Where it costs as much everywhere, the least room it can come to: above, else to the left, else where it is.
        int least = from >= 3 ? from - 3 : from % 3 > 0 ? from - 1 : from;
        Due.row(x, far <= 1 ? to : least);
    }

    private static void carryHours() {
        Edge.of(31, "for n HOURS (1 .. 5), by which the least melts in all: how much; the ROW: the ROOMS HOUR by HOUR: of as good ones the least row",
            "1 HOUR, 5; in a house of one room, of nine");
        Edge.asks(() -> stoved("60", 0), "carry(1) in one room", 2, o -> o.carry(1), 0);
        Edge.asks(() -> stoved("60", 0), "carry(5) in one room", 10, o -> o.carry(5), 0, 0, 0, 0, 0);
        Edge.asks(() -> stoved("60,60,60/60,60,60/60,60,60", 8), "carry(5) of nine", 10, o -> o.carry(5), 5, 2, 1, 0, 0);
        // To the room in the corner across, where nothing is left to melt, it comes in four HOURS.
        Edge.asks(() -> stoved("60,60,60/60,60,60/60,60,0", 0), "carry(4) of nine", 6, o -> o.carry(4), 1, 2, 5, 8);

        Edge.of(31, "-2: it is nowhere; NONE: another n.", "0, 6; nowhere in a house, without one");
        for (int n : new int[] {0, -1, 6, Integer.MAX_VALUE, Integer.MIN_VALUE}) {
            Edge.leaves(Edge::busy, "carry(" + n + ")", -1, o -> o.carry(n));
        }
        for (int n = 1; n <= 5; n++) {
            int k = n;
            Edge.leaves(Edge::bare, "carry(" + k + "), nowhere", -2, o -> o.carry(k));
        }
        Edge.leaves(Edge::homeless, "carry(1)", -2, o -> o.carry(1));
    }

    private static LetByTheDegree stoved(String house, int room) {
        LetByTheDegree x = house(house, "", "w/2");
        x.stove(room);
        return x;
    }

    private static void carryFalls() {
        Edge.of(31, "(If it falls, it goes on from there; in HOURS behind its being nowhere: 9.)",
            "in the first HOUR, in the last; one storey, three");
        Edge.asks(() -> stoved("1", 0), "carry(1)", 1, o -> o.carry(1), 0);
        Edge.asks(() -> stoved("1", 0), "carry(5)", 1, o -> o.carry(5), 0, 9, 9, 9, 9);
        Edge.asks(() -> stoved("9", 0), "carry(5), out in the last HOUR", 9, o -> o.carry(5), 0, 0, 0, 0, 0);
        Edge.asks(() -> stoved("7", 0), "carry(5), out in the last but one", 7, o -> o.carry(5), 0, 0, 0, 0, 9);
        Edge.asks(() -> stoved("0/0/0", 0), "carry(2), out through three storeys", 0, o -> o.carry(2), 0, 9);
        // From room 0 it falls to room 3 in the first HOUR, from which it can't come to room 0's other neighbour at once.
        LetByTheDegree x = house("1,60/60,60", "", "w*(i<50)");
        x.stove(0);
        Due.asks(x, "carry(1)", 0, () -> x.carry(1), 1);
        x.sheet(2, 4, 0, 20);
        Due.asks(x, "carry(2), by falling from room 0", 0, () -> x.carry(2), 0, 0);
    }

    private static void hearth() {
        Edge.of(32, "melts the least in n HOURS (1 .. 60), staying; of equal ones the first: it; the ROW: how much melts in all, how much with it nowhere",
            "1 HOUR, 60; all alike, the last room; HEAT 0");
        Edge.asks(() -> house("99,99/99,99", "", "w/2"), "hearth(1)", 0, o -> o.hearth(1), 2, 0);
        Edge.asks(() -> house("99", "", "w/5"), "hearth(60)", 0, o -> o.hearth(60), 60, 0);
        Edge.asks(() -> house("99,99/99,1", "", "w/2"), "hearth(1)", 4, o -> o.hearth(1), 1, 0);
        LetByTheDegree x = house("9,9", "a1:222222", "w");
        x.set(0, 0);
        Due.asks(x, "hearth(1), HEAT 0", 0, () -> x.hearth(1), 2, 2);
        Edge.asks(Edge::bare, "hearth(60) without ICE", 0, o -> o.hearth(60), 0, 0);
        // Wherever it is now doesn't count.
        for (int r = -1; r <= 1; r++) {
            LetByTheDegree y = house("50,20", "", "w*(i<30)");
            y.stove(r);
            Due.asks(y, "hearth(2), now " + r, 0, () -> y.hearth(2), 0, 0);
        }

        Edge.of(32, "-2: there are no ROOMS; NONE: another n.", "0, 61");
        for (int n : new int[] {0, -1, 61, Integer.MAX_VALUE, Integer.MIN_VALUE}) {
            Edge.leaves(Edge::busy, "hearth(" + n + ")", -1, o -> o.hearth(n));
        }
        Edge.leaves(Edge::homeless, "hearth(1)", -2, o -> o.hearth(1));
        Edge.leaves(Edge::homeless, "hearth(60)", -2, o -> o.hearth(60));
    }

    // ---- each as he likes

    private static void restsValues() {
        Edge.of(33, "each gets v (0 .. 99) if it is as WARM as that, not 0 by choice, less what MELTS in all there",
            "0, 99; as much as melts by one; one who is not WARM in HOUR NOW");
        String two = "a1:200000;a1:200000";
        // By w/2 0, 1, 1, 2 melt by neither, the first, the second, both.
        Edge.asks(() -> house("99", two, "w/2"), "rests(0, 1, 0)", 1, o -> o.rests(0, 1, 0), 0, 0);
        Edge.asks(() -> house("99", two, "w/2"), "rests(0, 1, 1), all alike", 15, o -> o.rests(0, 1, 1), 0, 0);
        Edge.asks(() -> house("99", two, "w/2"), "rests(0, 1, 2)", 8, o -> o.rests(0, 1, 2), 0, 0);
        Edge.asks(() -> house("99", two, "w/2"), "rests(0, 1, 99)", 8, o -> o.rests(0, 1, 99), 97, 97);
        // If both are, it makes no difference to either that the other one isn't.
        Edge.asks(() -> house("99", two, "99*(w>0)"), "rests(0, 1, 0)", 9, o -> o.rests(0, 1, 0), 0, 0);
        Edge.asks(() -> house("99", two, "99*(w>2)"), "rests(0, 1, 98)", 6, o -> o.rests(0, 1, 98), 98, 0);
        Edge.asks(() -> house("99", two, "99*(w>2)"), "rests(0, 1, 99)", 14, o -> o.rests(0, 1, 99), 99, 0);
        Edge.asks(() -> house("99", "a1:000000;a1:000000", "w/2"), "rests(0, 1, 0), WARM 0", 15, o -> o.rests(0, 1, 0), 0, 0);
        Edge.asks(() -> house("99", "a1:000000;a1:000000", "w/2"), "rests(0, 1, 1), WARM 0", 8, o -> o.rests(0, 1, 1), 1, 1);
        Edge.asks(() -> house("0", two, "w/2"), "rests(0, 1, 99), ICE 0", 8, o -> o.rests(0, 1, 99), 99, 99);

        Edge.of(33, "in which neither would get more by doing the other thing alone: bits; the ROW: what the first, the second get in the first of these (none without)",
            "the second's gets what the first's did when they are told the other way round; there is always a way");
        Edge.asks(() -> house("99", "a1:600000;a1:200000", "w/2"), "rests(0, 1, 2)", 4, o -> o.rests(0, 1, 2), -1, 1);
        Edge.asks(() -> house("99", "a1:600000;a1:200000", "w/2"), "rests(1, 0, 2)", 2, o -> o.rests(1, 0, 2), 1, -1);
        // What one gets more by doing the other thing is v less, or more, what melts more: both count alike, so that a best way stands.
        for (int v = 0; v <= 99; v += 9) {
            LetByTheDegree x = house("99", "a1:100000;a1:200000", "(w=0)*40+(w=1)*20+(w=2)*10+(w=3)*30");
            Due.is("whether there is a way by " + v, x.rests(0, 1, v) > 0, true);
            Edge.counts(x, 11, 2);
        }
    }

    private static void restsRefused() {
        Edge.of(33, "-2: not in one room; NONE: others, like ones.", "-1, 100; nobody; the same; one is OUT, both are");
        int[][] wrong = {{0, 1, -1}, {0, 1, 100}, {0, 0, 1}, {1, 1, 1}, {-1, 0, 1}, {0, -1, 1}, {2, 0, 1}, {0, 2, 1},
            {0, 1, Integer.MAX_VALUE}, {Integer.MIN_VALUE, 1, 1}, {0, Integer.MAX_VALUE, 1}, {5, 5, 5}};
        for (int[] w : wrong) {
            Edge.leaves(Edge::busy, "rests(" + w[0] + ", " + w[1] + ", " + w[2] + ")", -1, o -> o.rests(w[0], w[1], w[2]));
        }
        Edge.leaves(Edge::busy, "rests(0, 1, 0)", -2, o -> o.rests(0, 1, 0));
        Edge.leaves(Edge::busy, "rests(1, 0, 99)", -2, o -> o.rests(1, 0, 99));
        Edge.leaves(EdgeSharesTests::outside, "rests(0, 2, 1), one OUT", -2, o -> o.rests(0, 2, 1));
        Edge.leaves(EdgeSharesTests::outside, "rests(2, 0, 1), one OUT", -2, o -> o.rests(2, 0, 1));
        Edge.leaves(EdgeSharesTests::outside, "rests(0, 1, 1), both OUT", -2, o -> o.rests(0, 1, 1));
        Edge.leaves(Edge::homeless, "rests(0, 1, 1)", -1, o -> o.rests(0, 1, 1));
    }
}
