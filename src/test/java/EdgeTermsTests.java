/** The edges that the terms name, which bind every promise. */
public final class EdgeTermsTests {
    public static void main(String[] args) {
        sizes();
        ice();
        atFirst();
        people();
        cycle();
        heatFrostPrice();
        compared();
        signs();
        numbersAndBrackets();
        facts();
        ints();
        putToIce();
        meltsAndRents();
        drips();
        freezes();
        gives();
        falls();
        now();
        row();
        questions();
        standing();
        refused();
        noneFirst();
        calls();
        Due.end();
    }

    // ---- ROOMS

    private static void sizes() {
        Edge.of(0, "COLUMNS 1 .. 3 and STOREYS 1 .. 3", "the least and the most of each, and one more");
        LetByTheDegree x = new LetByTheDegree();
        Due.is("house() of 7", Due.house(x, "7"), 1);
        Edge.counts(x, 0, 1, 1);
        Due.is("house() of three columns", Due.house(x, "1,2,3"), 3);
        Edge.counts(x, 0, 3, 1);
        Due.is("house() of three storeys", Due.house(x, "1/2/3"), 3);
        Edge.counts(x, 0, 1, 3);
        Due.is("house() of four columns", Due.house(x, "1,2,3,4"), -6);
        Due.is("house() of four storeys", Due.house(x, "1/2/3/4"), -6);
        Edge.counts(x, 0, 1, 3);
        Due.is("house() of nine", Due.house(x, "1,2,3/4,5,6/7,8,9"), 9);
        Edge.counts(x, 0, 3, 3);

        Edge.of(0, "room 3 y + x (x column, y storey)", "numbers of rooms that are there, and of those that are not");
        String[] houses = {"1", "1,2", "1,2,3", "1/2", "1/2/3", "1,2/3,4", "1,2,3/4,5,6", "1,2/3,4/5,6", "1,2,3/4,5,6/7,8,9"};
        int[] rooms = {1, 3, 7, 1 | 8, 1 | 8 | 64, 3 | 24, 63, 3 | 24 | 192, 511};
        for (int k = 0; k < houses.length; k++) {
            LetByTheDegree y = new LetByTheDegree();
            Due.house(y, houses[k]);
            Due.is("rooms of " + houses[k], Edge.rooms(y), rooms[k]);
        }
        LetByTheDegree z = new LetByTheDegree();
        Due.is("rooms of no house", Edge.rooms(z), 0);
        Due.house(z, "1,2/3,4/5,6");
        for (int k = 0; k < 6; k++) {
            Edge.room(z, 3 * (k / 2) + k % 2, k + 1);
        }

        Edge.of(0, "0 is the highest", "water drips from storey 0 to 1 to 2, not back");
        LetByTheDegree v = Due.thin("9/9/9", "");
        Due.rule(v, "4*(y=0)*(h=0)");
        v.hours(2);
        Edge.room(v, 0, 5, 0);
        Edge.room(v, 3, 9, 4);
        v.hour();
        Edge.room(v, 6, 9, 4);
        v.hour();
        Due.asks(v, "water()", 27, () -> v.water(), 23, 0, 4);
    }

    private static void ice() {
        Edge.of(0, "ICE 0 .. 99", "the least and the most");
        LetByTheDegree x = new LetByTheDegree();
        Due.is("house()", Due.house(x, "0,1/98,99"), 4);
        Edge.room(x, 0, 0);
        Edge.room(x, 1, 1);
        Edge.room(x, 3, 98);
        Edge.room(x, 4, 99);
        Due.is("sheet() of -1, 0", x.sheet(2, 2, -1, 1), 0);
        Edge.room(x, 0, 0);
        Due.is("sheet() of 99, 100, 101", x.sheet(2, 3, 99, 1), 297);
        Edge.room(x, 1, 99);

        Edge.of(0, "each its ICE (1 or 2 digits)", "none, one, two, three digits; a 0 ahead");
        LetByTheDegree y = new LetByTheDegree();
        Due.is("house() of no digit", Due.house(y, "1,,2"), -3);
        Due.is("house() of three digits", Due.house(y, "1,234"), -5);
        Due.is("house() of three digits, 0 ahead", Due.house(y, "1,023"), -5);
        Due.is("house() of 0s ahead", Due.house(y, "00,07,7"), 3);
        Edge.room(y, 0, 0);
        Edge.room(y, 1, 7);
        Edge.room(y, 2, 7);

        Edge.of(0, "as many rooms in each as in the first", "one less, one more");
        LetByTheDegree z = new LetByTheDegree();
        Due.is("house(), one less", Due.house(z, "1,2/3"), -6);
        Due.is("house(), one more", Due.house(z, "1,2/3,4,5"), -8);
        Due.is("house(), as many", Due.house(z, "1,2/3,4"), 4);
    }

    private static void atFirst() {
        Edge.of(0, "WATER on it (at first 0). THE POND (at first 0)", "in a house anew");
        LetByTheDegree x = Due.of("9,8/7,6", "");
        Due.asks(x, "water()", 30, () -> x.water(), 30, 0, 0);
        Edge.room(x, 4, 6, 0);

        Edge.of(0, "OWES (at first 0), FELL (how often, at first 0)", "and counted from there");
        LetByTheDegree y = Due.thin("0/0/0", "a1:700000");
        Edge.person(y, 0, 0, 0, 0);
        y.hour();
        Edge.person(y, 0, -1, 7, 3);

        Edge.of(0, "THE STOVE: in a room or nowhere (at first nowhere), HEAT 0 .. 9 (at first 5). FROST 0 .. 9 (at first 2). "
            + "PRICE 0 .. 9 (at first 1). HOURS are counted (NOW, at first 0).", "all of them");
        Edge.counts(new LetByTheDegree(), 4, -1, 5, 2, 1, 0);
        Edge.counts(Due.of("5", ""), 4, -1, 5, 2, 1, 0);
    }

    // ---- PEOPLE

    private static void people() {
        Edge.of(0, "PEOPLE 0 .. (at most 5): in a room, or OUT", "none, five, a sixth");
        LetByTheDegree x = Due.of("9", "");
        Edge.counts(x, 2, 0, 0);
        Due.throwsNone("person(0, 0)", () -> x.person(0, 0));
        Due.is("people() of five", Due.people(x, Edge.lines(5, "123456")), 5);
        Edge.counts(x, 2, 5, 0);
        Edge.room(x, 0, 9, 0, 5, 2, 31, 0);
        Edge.person(x, 4, 0, 0, 0, 1, 21);
        Due.throwsNone("person(5, 0)", () -> x.person(5, 0));
        Due.is("people() of a sixth", Due.people(x, "a1:123456"), -1);
        Edge.counts(x, 2, 5);

        Edge.of(0, "PEOPLE are told by a text of at most 76 signs", "the 49 of five LINES, which are the most, and one more");
        Edge.reads(Edge::homeless, "people()", "a1:000000", -1, LetByTheDegree::people);
        Edge.reads(() -> Due.of("9", ""), "people()", Edge.lines(5, "000000") + ";", -51, LetByTheDegree::people);
        Edge.reads(() -> Due.of("9", ""), "people()", Edge.lines(5, "000000") + "0", -50, LetByTheDegree::people);
        LetByTheDegree z = Due.of("9", "");
        Due.is("people() of 49 signs", Due.people(z, Edge.lines(5, "000000")), 5);

        Edge.of(0, "in a room, or OUT", "all of five are OUT, and can be warm no more");
        LetByTheDegree y = Due.thin("0", Edge.lines(5, "999999"));
        y.hours(2);
        Edge.counts(y, 2, 5, 31);
        Edge.room(y, 0, 0, 0, 0, 0, 0, 0);
        Edge.person(y, 4, -1, 9, 1, 9, 54);
    }

    private static void cycle() {
        Edge.of(0, "WARM 0 .. 9 in HOUR NOW % 6 of a cycle (6 digits)",
            "the first, the last HOUR of a cycle, the first of the next");
        LetByTheDegree x = Due.of("99", "a1:900007");
        int[] warm = {9, 0, 0, 0, 0, 7, 9, 0};
        for (int k = 0; k < warm.length; k++) {
            Due.is("person(0, 3) in HOUR " + k, x.person(0, 3), warm[k]);
            Due.is("room(0, 2) in HOUR " + k, x.room(0, 2), warm[k]);
            x.hour();
        }
        Due.is("person(0, 1)", x.person(0, 1), 25);
        x.hours(60);
        Due.is("person(0, 1) behind ten cycles more", x.person(0, 1), 185);
    }

    private static void heatFrostPrice() {
        Edge.of(0, "HEAT 0 .. 9 (at first 5)", "the least and the most");
        LetByTheDegree x = Due.of("99", "a1:100000");
        Due.rule(x, "w");
        x.stove(0);
        Edge.room(x, 0, 99, 0, 6, 6);
        x.set(0, 0);
        Edge.room(x, 0, 99, 0, 1, 1);
        x.set(0, 9);
        Edge.room(x, 0, 99, 0, 10, 10);

        Edge.of(0, "FROST 0 .. 9 (at first 2)", "the least and the most");
        int[] frost = {0, 1, 2, 9};
        for (int f : frost) {
            LetByTheDegree y = Due.of("50", "");
            Due.rule(y, "20");
            y.set(1, f);
            y.hour();
            Edge.room(y, 0, 30 + f, 20 - f);
        }

        Edge.of(0, "PRICE 0 .. 9 (at first 1)", "the least and the most");
        LetByTheDegree z = Due.of("99", "a1:777777");
        z.hour();
        Edge.person(z, 0, 0, 7);
        z.set(2, 0);
        z.hour();
        Edge.person(z, 0, 0, 7);
        z.set(2, 9);
        z.hour();
        Edge.person(z, 0, 0, 70);
    }

    // ---- THE RULE

    private static void compared() {
        LetByTheDegree x = Due.of("99", "");
        Edge.of(0, "< > = bind least (two; 1 or 0; not one behind the other)", "less, like, more; 1 or 0; one alone");
        int[][] pairs = {{6, 7}, {7, 7}, {8, 7}};
        for (int[] p : pairs) {
            Edge.melts(x, p[0] + "<" + p[1], p[0] < p[1] ? 1 : 0);
            Edge.melts(x, p[0] + ">" + p[1], p[0] > p[1] ? 1 : 0);
            Edge.melts(x, p[0] + "=" + p[1], p[0] == p[1] ? 1 : 0);
        }
        Edge.melts(x, "1+1<1*2+1", 1);
        Edge.melts(x, "9-8=1", 1);
        Edge.melts(x, "-1<-2+2", 1);
        Edge.melts(x, "(1<2)+(2>1)+(1=1)", 3);
        Edge.melts(x, "(3>2)=1", 1);
        for (String s : new String[] {"1<2<3", "1=1=1", "3>2>1", "1<2=1"}) {
            Edge.reads(Edge::busy, "rule()", s, -4, LetByTheDegree::rule);
        }
        Edge.reads(Edge::busy, "rule()", "(1<2>w)", -5, LetByTheDegree::rule);

        Edge.of(0, "then + - (from the left)", "three of them");
        LetByTheDegree y = Due.of("99", "");
        Edge.melts(y, "9-4-3", 2);
        Edge.melts(y, "9-4+3", 8);
        Edge.melts(y, "9-(4-3)", 8);

        Edge.of(0, "then * / (from the left; by 0: 0; cut to 0)", "by 0, what is left over, below 0");
        LetByTheDegree z = Due.of("99", "");
        Edge.melts(z, "7/0", 0);
        Edge.melts(z, "9-7/0", 9);
        Edge.melts(z, "0/0+3", 3);
        Edge.melts(z, "7/(w-w)*5+1", 1);
        Edge.melts(z, "60/7/2", 4);
        Edge.melts(z, "60/7*2", 16);
        Edge.melts(z, "7/2", 3);
        Edge.melts(z, "10+-7/2", 7);
        Edge.melts(z, "10+7/-2", 7);
        Edge.melts(z, "10+-1/2", 10);
        Edge.melts(z, "1/2", 0);
        Edge.melts(z, "2+3*4", 14);
    }

    private static void signs() {
        LetByTheDegree x = Due.of("99", "");
        Edge.of(0, "then - ahead of a thing (any many)", "none, one, two, as many as THE RULE has signs");
        Edge.melts(x, "7", 7);
        Edge.melts(x, "-7", 0);
        Edge.melts(x, "9+-7", 2);
        Edge.melts(x, "--7", 7);
        Edge.melts(x, "9---7", 2);
        Edge.melts(x, "2*--3", 6);
        Edge.melts(x, "-(2-9)", 7);
        Edge.melts(x, "-".repeat(38) + "42", 42);
        Edge.melts(x, "-".repeat(39) + "5", 0);
        Edge.reads(Edge::busy, "rule()", "-", -2, LetByTheDegree::rule);
        Edge.reads(Edge::busy, "rule()", "w--", -4, LetByTheDegree::rule);
        Edge.reads(Edge::busy, "rule()", "+w", -1, LetByTheDegree::rule);
        Edge.reads(Edge::busy, "rule()", "w*+i", -3, LetByTheDegree::rule);
    }

    private static void numbersAndBrackets() {
        LetByTheDegree x = Due.of("99", "");
        Edge.of(0, "a NUMBER of 1 to 3 digits", "one, three, a fourth; 0s ahead");
        Edge.melts(x, "8", 8);
        Edge.melts(x, "88", 88);
        Edge.melts(x, "999-900", 99);
        Edge.melts(x, "008", 8);
        Edge.melts(x, "000", 0);
        Edge.reads(Edge::busy, "rule()", "1000", -4, LetByTheDegree::rule);
        Edge.reads(Edge::busy, "rule()", "w+0001", -6, LetByTheDegree::rule);

        Edge.of(0, "an EXPRESSION in ( ) (at most 4 in one another)", "four, a fifth; four again behind them; none in them");
        Edge.melts(x, "((((5))))", 5);
        Edge.melts(x, "((((5))))+((((6))))", 11);
        Edge.melts(x, "(((1+(2))))*(3)", 9);
        Edge.melts(x, "(1)+(2)+(3)+(4)+(5)+(6)", 21);
        Edge.reads(Edge::busy, "rule()", "(((((5)))))", -5, LetByTheDegree::rule);
        Edge.reads(Edge::busy, "rule()", "((((1))))+(((1+((2)))))", -17, LetByTheDegree::rule);
        Edge.reads(Edge::busy, "rule()", "()", -2, LetByTheDegree::rule);
        Edge.reads(Edge::busy, "rule()", "((((5)))", -9, LetByTheDegree::rule);
        Edge.reads(Edge::busy, "rule()", "((((5)))))", -10, LetByTheDegree::rule);
    }

    private static void facts() {
        Edge.of(0, "w WARMTH (that of all who are in it in this HOUR, and HEAT, if THE STOVE is)",
            "nobody and no stove, all five and the stove");
        LetByTheDegree x = Due.of("99/99", Edge.lines(5, "900000"));
        Due.rule(x, "w");
        x.set(0, 9);
        Edge.room(x, 3, 99, 0, 0, 0);
        Edge.room(x, 0, 99, 0, 45, 45);
        x.stove(0);
        Edge.room(x, 0, 99, 0, 54, 54);
        x.hour();
        Edge.room(x, 0, 47, 52, 9, 9);

        Edge.of(0, "i ICE, a WATER, f FROST, y the storey, n how many are in it, h NOW", "the least and the most of each");
        LetByTheDegree y = Due.thin("0,99/9,9/9,9", "b3:000000;b3:000000;b3:000000;b3:000000;b3:000000");
        Due.rule(y, "i");
        Due.is("room(0, 3)", y.room(0, 3), 0);
        Due.is("room(1, 3)", y.room(1, 3), 99);
        Due.rule(y, "a");
        Due.is("room(1, 3)", y.room(1, 3), 0);
        Due.rule(y, "f");
        Due.is("room(1, 3) by FROST 0", y.room(1, 3), 0);
        y.set(1, 9);
        Due.is("room(1, 3) by FROST 9", y.room(1, 3), 9);
        Due.rule(y, "y");
        Due.is("room(1, 3)", y.room(1, 3), 0);
        Due.is("room(4, 3)", y.room(4, 3), 1);
        Due.is("room(7, 3)", y.room(7, 3), 2);
        Due.rule(y, "n");
        Due.is("room(6, 3)", y.room(6, 3), 0);
        Due.is("room(7, 3)", y.room(7, 3), 5);
        Due.rule(y, "h");
        Due.is("room(1, 3) in HOUR 0", y.room(1, 3), 0);
        Due.rule(y, "0");
        y.hours(7);
        Due.rule(y, "h");
        Due.is("room(1, 3) in HOUR 7, which is not the cycle's", y.room(1, 3), 7);
        y.undo();
        y.set(1, 0);
        Due.rule(y, "i*(y=0)");
        y.hour();
        Due.rule(y, "a");
        y.sheet(2, 2, 99, 0);
        Due.is("room(1, 3) with WATER 99", y.room(1, 3), 99);

        Edge.of(0, "THE RULE is a text of at most 40 signs (at first none: w/2)", "none, 40, 41; what is left over by 2 is cut");
        LetByTheDegree forty = Due.of("99", "");
        Due.is("rule() of 40 signs", Due.rule(forty, "7+" + "0+".repeat(18) + "70"), 0);
        Edge.room(forty, 0, 99, 0, 0, 77);
        Edge.reads(Edge::busy, "rule()", "7+" + "0+".repeat(18) + "700", -41, LetByTheDegree::rule);
        LetByTheDegree z = Due.of("99", "a1:018000");
        Edge.room(z, 0, 99, 0, 0, 0);
        z.hour();
        Edge.room(z, 0, 99, 0, 1, 0);
        z.hour();
        Edge.room(z, 0, 99, 0, 8, 4);
    }

    private static void ints() {
        LetByTheDegree x = Due.of("99", "");
        Edge.of(0, "As ints, put to 0 .. ICE: what MELTS.", "ints that wrap around");
        String two31 = "128*128*128*512*2";
        Edge.melts(x, two31, 0);
        Edge.melts(x, two31 + "-1", 99);
        Edge.melts(x, two31 + "-1<0", 0);
        Edge.melts(x, two31 + "<0", 1);
        Edge.melts(x, "-(" + two31 + ")<0", 1);
        Edge.melts(x, two31 + "/-1<0", 1);
        Edge.melts(x, two31 + "/-1", 0);
        Edge.melts(x, two31 + "*2+7", 7);
        Edge.melts(x, "(" + two31 + "-1)+1<0", 1);
        Edge.melts(x, "0-(" + two31 + ")-1>0", 1);
        // 999 to the power of 4 is 996005996001, as an int 3868550625 less 2 to the power of 32.
        Edge.melts(x, "999*999*999*999<0", 1);
    }

    private static void putToIce() {
        Edge.of(0, "put to 0 .. ICE: what MELTS", "one below 0, 0, ICE less one, ICE, one more");
        LetByTheDegree x = Due.of("50,0,1", "");
        int[][] want = {{-1, 0, 0, 0}, {0, 0, 0, 0}, {1, 1, 0, 1}, {2, 2, 0, 1}, {49, 49, 0, 1}, {50, 50, 0, 1}, {51, 50, 0, 1}};
        for (int[] w : want) {
            Due.rule(x, "" + w[0]);
            for (int r = 0; r < 3; r++) {
                Due.is("room(" + r + ", 3) by " + w[0], x.room(r, 3), w[r + 1]);
            }
        }
    }

    // ---- AN HOUR

    private static void meltsAndRents() {
        Edge.of(0, "(1) of each room, by ICE and all as they are ahead: what MELTS",
            "what drips onto a room in that HOUR doesn't count");
        LetByTheDegree x = Due.thin("9/9", "");
        Due.rule(x, "a+3*(y=0)*(h=0)");
        Due.is("hour()", x.hour(), 3);
        Due.is("hour()", x.hour(), 3);
        Edge.room(x, 0, 3, 3);
        Edge.room(x, 3, 9, 3);
        Due.is("hour()", x.hour(), 6);
        Edge.room(x, 0, 0, 3);
        Edge.room(x, 3, 6, 6);

        Edge.of(0, "each in a room OWES PRICE times its WARM more",
            "one in a room without ICE, one who falls in that HOUR, one who is OUT");
        LetByTheDegree y = Due.thin("0/0", "a1:420000;a2:310000");
        y.set(2, 2);
        y.hour();
        Edge.person(y, 0, -1, 8, 2);
        Edge.person(y, 1, -1, 6, 1);
        y.hour();
        Edge.person(y, 0, -1, 8, 2);
        Edge.person(y, 1, -1, 6, 1);
    }

    private static void drips() {
        Edge.of(0, "its WATER drips away to the room below (or THE POND); then what MELTS is WATER on it, ICE so much less",
            "from the lowest storey to THE POND; each WATER one storey in an HOUR");
        LetByTheDegree x = Due.thin("9/9/9", "");
        Due.rule(x, "(y+1)*(h=0)");
        Due.is("hour()", x.hour(), 6);
        Edge.room(x, 0, 8, 1);
        Edge.room(x, 3, 7, 2);
        Edge.room(x, 6, 6, 3);
        Due.row(x, 0, 0, 0);
        x.hour();
        Edge.room(x, 0, 8, 0);
        Edge.room(x, 3, 7, 1);
        Edge.room(x, 6, 6, 2);
        Due.row(x, 0, 0, 3);
        x.hours(2);
        Due.asks(x, "water()", 27, () -> x.water(), 21, 0, 6);

        Edge.of(0, "(or THE POND)", "in a house of one storey");
        LetByTheDegree y = Due.thin("9,9", "");
        Due.rule(y, "2*(h=0)");
        y.hours(2);
        Due.row(y, 0, 0, 4);
    }

    private static void freezes() {
        Edge.of(0, "as much of WATER as FROST tells (or all) is ICE again", "WATER one less than FROST, as much, one more");
        int[][] want = {{2, 50, 0}, {3, 50, 0}, {4, 49, 1}};
        for (int[] w : want) {
            LetByTheDegree x = Due.of("50", "");
            x.set(1, 3);
            Due.rule(x, "" + w[0]);
            Due.is("hour()", x.hour(), w[0]);
            Edge.room(x, 0, w[1], w[2]);
        }

        Edge.of(0, "(ICE 99 at most)", "ICE 97, 98, 99 below WATER 2; what can't be ICE is WATER still");
        int[][] most = {{97, 99, 0}, {98, 99, 1}, {99, 99, 2}};
        for (int[] w : most) {
            LetByTheDegree x = Due.thin("50/" + w[0], "");
            Due.rule(x, "2*(y=0)*(h=0)");
            x.hour();
            x.set(1, 9);
            x.hour();
            Edge.room(x, 3, w[1], w[2]);
            x.hour();
            Due.row(x, 0, 0, w[2]);
        }
    }

    private static void gives() {
        Edge.of(0, "(4) By rooms in their numbers: one whose ICE is 0 GIVES",
            "ICE 1, ICE 0, ICE that FROST mends; with nobody in it, too");
        LetByTheDegree x = Due.thin("1,0,4", "");
        Due.rule(x, "w");
        x.set(0, 4);
        x.stove(2);
        x.hour();
        Due.row(x, 2 | 4, 0, 0);
        LetByTheDegree y = Due.of("4", "a1:999999");
        y.set(1, 1);
        y.hour();
        Edge.room(y, 0, 1, 3);
        Due.row(y, 0, 0, 0);
    }

    private static void falls() {
        Edge.of(0, "(in one of the lowest storey: PEOPLE are OUT, THE STOVE nowhere)",
            "from the storey above it, from it, from the only one");
        LetByTheDegree x = Due.thin("0,0/9,0", "a1:000000;b2:000000");
        x.stove(0);
        x.hour();
        Edge.person(x, 0, 3, 0, 1);
        Edge.person(x, 1, -1, 0, 1);
        Edge.counts(x, 3, 2, 3);
        x.stove(4);
        x.hour();
        Edge.counts(x, 4, -1);
        LetByTheDegree y = Due.thin("0", "a1:000000");
        y.stove(0);
        y.hour();
        Edge.counts(y, 3, 1, -1);

        Edge.of(0, "(Who comes to a room by that falls on, if it GIVES, too.)",
            "through three storeys, through two, each FELL counted");
        LetByTheDegree z = Due.thin("0,0/0,0/0,1", "a1:000000;b1:000000;b3:000000");
        z.stove(0);
        z.hour();
        Edge.person(z, 0, -1, 0, 3);
        Edge.person(z, 1, 7, 0, 2);
        Edge.person(z, 2, 7, 0, 0);
        Edge.counts(z, 4, -1);
        Due.row(z, 1 | 2 | 8 | 16 | 64, 1 | 2, 0);
    }

    private static void now() {
        Edge.of(0, "(5) NOW is 1 more.", "also in a house where nothing happens");
        LetByTheDegree x = Due.of("9", "");
        x.hour();
        Edge.counts(x, 8, 1);

        Edge.of(0, "(Without a house nothing but NOW.)", "an HOUR of a new object");
        LetByTheDegree y = new LetByTheDegree();
        Due.is("hour()", y.hour(), 0);
        Due.row(y, 0, 0, 0);
        Edge.counts(y, 0, 0, 0, 0, 0, -1, 5, 2, 1, 1, 0, 1, 3, 0);
    }

    // ---- the ROW, what is asked, what is refused

    private static void row() {
        Edge.of(0, "Rows of numbers are compared from the first on.",
            "of 1, 2 and 2, 1, which have unlike first and last numbers");
        LetByTheDegree y = Due.thin("1,9,9", "b1:111111;c1:111111");
        Due.rule(y, "w");
        Due.asks(y, "lodge(1)", 2, () -> y.lodge(1), 1, 2);

        Edge.of(0, "Fractions are told in lowest terms, upper and lower number (0 by 1).",
            "0, a whole one, one that can be made less");
        LetByTheDegree z = Due.of("99,99", "a1:100000;a1:300000;b1:000000");
        Due.asks(z, "share(0) of 2 by 4", 0, () -> z.share(0), 1, 2);
        Due.asks(z, "share(1) of 6 by 4", 0, () -> z.share(1), 3, 2);
        Due.asks(z, "share(2) of 0 by 0", 0, () -> z.share(2), 0, 1);
        Due.rule(z, "4");
        Due.asks(z, "share(1) of 12 by 4", 0, () -> z.share(1), 3, 1);

        // 4 melt, whatever the two do.
        Edge.of(0, "a number below 0 that is meant as such (below 0, too) comes with its ROW",
            "numbers of the ROW that are below 0");
        LetByTheDegree w = Due.of("99", "a1:400000;a1:000000");
        Due.rule(w, "4");
        Due.asks(w, "rests(0, 1, 0)", 15, () -> w.rests(0, 1, 0), -4, -4);
        Due.asks(w, "rests(0, 1, 1)", 8, () -> w.rests(0, 1, 1), -3, -3);

        Edge.of(0, "ROW: numbers told last by a call that says so.", "each call that says nothing of a ROW leaves it");
        LetByTheDegree v = Edge.busy();
        v.end(0);
        Edge.Call[] silent = {o -> o.sign('w' << 24 | '+' << 16 | '1' << 8 | '1'), o -> o.end(2) ? 1 : 0, o -> o.rule(),
            o -> Due.people(o, "a1:000000"), o -> o.room(0, 0), o -> o.person(0, 0), o -> o.set(1, 3), o -> o.doing(0, 0, 1),
            o -> o.sheet(2, 4, 30, 0), o -> o.move(1, 0), o -> o.stove(0), o -> o.pay(0, 1), o -> o.undo(), o -> o.coldest(5),
            o -> o.leave(5, 50), o -> o.keep(1) ? 1 : 0, o -> o.again(1) ? 1 : 0, o -> o.count(3), o -> o.row(1),
            o -> Due.house(o, "9")};
        for (int k = 0; k < silent.length; k++) {
            silent[k].on(v);
            Due.row(v, 26, 2, 0);
        }
    }

    private static Edge.Call[] asked() {
        return new Edge.Call[] {o -> o.thick(0, 100), o -> o.gives(), o -> o.drips(100), o -> o.coldest(100), o -> o.lodge(40),
            o -> o.longest(), o -> o.quiet(40), o -> o.burden(), o -> o.share(0), o -> o.charges(100), o -> o.warm(0, 1),
            o -> o.look(), o -> o.carry(5), o -> o.hearth(60), o -> o.rests(0, 1, 5), o -> o.water(), o -> o.thaw(8, 5),
            o -> o.leave(5, 50), o -> o.season(1, 60), o -> o.count(0), o -> o.room(0, 0), o -> o.person(0, 0)};
    }

    private static void questions() {
        Edge.Call[] asked = asked();
        Edge.of(0, "Questions change nothing", "each of them, in an object of which all is told");
        for (int k = 0; k < asked.length; k++) {
            LetByTheDegree o = together();
            long answer = asked[k].on(o);
            long[] row = new long[o.count(11)];
            for (int i = 0; i < row.length; i++) {
                row[i] = o.row(i);
            }
            Edge.asks(EdgeTermsTests::together, "question " + k, answer, asked[k], row);
        }

        Edge.of(0, "Questions change nothing", "nor what the same and other questions answer then, in another house, too");
        for (int k = 0; k < asked.length; k++) {
            LetByTheDegree old = Due.thin("90,2,90/9,90,9/90,9,90", "a1:999999;b1:888888;b1:100000;c2:777777");
            old.stove(4);
            for (int j = 0; j < 2 * asked.length; j++) {
                old.set(1, j < asked.length ? 0 : 2);
                asked[j % asked.length].on(old);
            }
            LetByTheDegree anew = new LetByTheDegree();
            next(old);
            next(anew);
            Due.is("question " + k, asked[k].on(old), asked[k].on(anew));
            Due.is("whether it tells the same ROW", Due.rowOf(old).equals(Due.rowOf(anew)), true);
        }
    }

    private static void next(LetByTheDegree x) {
        Due.house(x, "4,5/0,6");
        Due.people(x, "a1:333333;a1:111111;b2:222222");
        x.stove(1);
        x.set(0, 2);
        x.set(1, 0);
        x.water();
    }

    private static LetByTheDegree together() {
        LetByTheDegree x = Edge.busy();
        x.set(1, 0);
        x.move(0, 4);
        return x;
    }

    private static void standing() {
        Edge.of(0, "what is asked of HOURS to come looks on for 100 at most",
            "a floor that gives in the 100th HOUR, in the 101st");
        LetByTheDegree x = Due.thin("99", "a1:000000");
        Due.rule(x, "h>0");
        Due.asks(x, "gives() in the 100th", 100, () -> x.gives(), 0, 1);
        Due.asks(x, "longest()", 99, () -> x.longest(), 0);
        Due.asks(x, "burden()", 0, () -> x.burden(), 99, 99);
        Due.rule(x, "h>1");
        Due.leaves(x, "gives() in the 101st", -2, () -> x.gives());
        Due.asks(x, "longest()", 100, () -> x.longest(), 0);
        Due.asks(x, "burden()", 0, () -> x.burden(), 100, 100);
        Due.asks(x, "thick(0, 100)", 1, () -> x.thick(0, 100), 1, 97);

        Edge.of(0, "It STANDS in so many HOURS, if no floor of a room with ICE now has 0 behind any of them.",
            "the last HOUR in which it stands, and the next; a room with ICE 0 now");
        LetByTheDegree y = Due.thin("6,0", "b1:000000");
        Due.rule(y, "2");
        Due.leaves(y, "coldest(2)", 0, () -> y.coldest(2));
        Due.leaves(y, "coldest(3)", 1, () -> y.coldest(3));
        Due.asks(y, "lodge(2)", 2, () -> y.lodge(2), 0);
        Due.asks(y, "lodge(3)", 0, () -> y.lodge(3));
        LetByTheDegree bare = Due.thin("0/0", "a1:999999");
        Due.asks(bare, "longest()", 100, () -> bare.longest(), 0);

        // A thaw in the first HOUR takes the floor of room 3; in the second FROST makes one of what drips from above.
        Edge.of(0, "behind any of them", "a floor that has ICE again at the end gave all the same");
        LetByTheDegree z = Due.of("9/1", "");
        Due.rule(z, "h=0");
        Due.asks(z, "thaw(1, 5)", 0, () -> z.thaw(1, 5), 1, 2);
        Due.asks(z, "thaw(2, 5)", 0, () -> z.thaw(2, 5), 1, 2);
        z.set(1, 0);
        z.hour();
        Edge.room(z, 3, 0, 1);
        z.set(1, 2);
        z.hour();
        Edge.room(z, 3, 1, 0);
    }

    private static void refused() {
        Edge.of(0, "Refused calls answer NONE, or false, and change nothing but THE TEXT",
            "each that can be refused, with all that can be told told");
        Edge.Call[] calls = {o -> o.set(0, 10), o -> o.doing(0, 6, 1), o -> o.sheet(4, 1, 1, 1), o -> o.move(2, 0),
            o -> o.move(0, 2), o -> o.stove(2), o -> o.hours(61), o -> o.pay(0, 0), o -> o.drips(101), o -> o.coldest(0),
            o -> o.lodge(0), o -> o.quiet(0), o -> o.share(2), o -> o.charges(101), o -> o.warm(2, 1), o -> o.carry(0),
            o -> o.hearth(0), o -> o.rests(0, 0, 1), o -> o.thaw(0, 1), o -> o.leave(11, 1), o -> o.season(1, 0)};
        for (int k = 0; k < calls.length; k++) {
            Edge.leaves(Edge::busy, "refused call " + k, -1, calls[k]);
        }
        Edge.leaves(Edge::busy, "end(5)", 0, o -> o.end(5) ? 1 : 0);
        Edge.leaves(Edge::busy, "keep(2)", 0, o -> o.keep(2) ? 1 : 0);
        Edge.leaves(Edge::busy, "again(1)", 0, o -> o.again(1) ? 1 : 0);
        Edge.leaves(EdgeTermsTests::full, "sign(0)", -1, o -> o.sign(0));
        Edge.leaves(LetByTheDegree::new, "undo()", -1, o -> o.undo());

        Edge.of(0, "which a call that can read it empties, whatever it answers",
            "each of the four, by a text that it can read and one that it can't");
        String[][] texts = {{"1,2", "1,x"}, {"a1:000000", "a1:00000x"}, {"w+i", "w+x"}, {"h;h", "h;x"}};
        for (int k = 0; k < texts.length; k++) {
            for (String s : texts[k]) {
                LetByTheDegree x = Due.of("9,9/9,9", "");
                Due.type(x, s);
                Due.is("count(12) ahead", x.count(12), s.length());
                int answer = k == 0 ? x.house() : k == 1 ? x.people() : k == 2 ? x.rule() : x.winter();
                Due.is("whether it could read " + s, answer >= 0, !s.endsWith("x"));
                Due.is("count(12) behind " + s, x.count(12), 0);
            }
        }
        Edge.reads(Edge::busy, "house()", "1,x", -3, LetByTheDegree::house);
        Edge.reads(Edge::busy, "people()", "a1:00000x", -9, LetByTheDegree::people);
        Edge.reads(Edge::busy, "rule()", "w+x", -3, LetByTheDegree::rule);
        Edge.reads(Edge::busy, "winter()", "h;x", -3, LetByTheDegree::winter);
    }

    private static LetByTheDegree full() {
        LetByTheDegree x = Edge.busy();
        x.end(0);
        Due.type(x, "h;".repeat(40));
        return x;
    }

    private static void noneFirst() {
        Edge.of(0, "NONE is asked ahead of other answers below 0", "each call for which both hold");
        Edge.leaves(Edge::busy, "sheet(4, -1, 0, 0)", -1, o -> o.sheet(4, -1, 0, 0));
        Edge.leaves(Edge::busy, "sheet(3, 10, 0, 0)", -1, o -> o.sheet(3, 10, 0, 0));
        Edge.leaves(EdgeTermsTests::crowd, "lodge(41)", -1, o -> o.lodge(41));
        Edge.leaves(EdgeTermsTests::crowd, "lodge(40)", -3, o -> o.lodge(40));
        Edge.leaves(EdgeTermsTests::crowd, "carry(6), nowhere", -1, o -> o.carry(6));
        Edge.leaves(EdgeTermsTests::crowd, "carry(5), nowhere", -2, o -> o.carry(5));
        Edge.leaves(Edge::homeless, "hearth(61), no ROOMS", -1, o -> o.hearth(61));
        Edge.leaves(Edge::homeless, "hearth(60), no ROOMS", -2, o -> o.hearth(60));
        Edge.leaves(Edge::busy, "rests(0, 1, 100), not in one room", -1, o -> o.rests(0, 1, 100));
        Edge.leaves(Edge::busy, "rests(0, 1, 99), not in one room", -2, o -> o.rests(0, 1, 99));
        Edge.leaves(EdgeTermsTests::meltingAway, "quiet(41)", -1, o -> o.quiet(41));
        Edge.leaves(EdgeTermsTests::meltingAway, "quiet(40)", -2, o -> o.quiet(40));

        Edge.of(0, "(what a TEXT tells wrongly aside)", "-1 of the four tells of the sign at 0");
        Edge.reads(Edge::busy, "house()", "x", -1, LetByTheDegree::house);
        Edge.reads(Edge::busy, "people()", "x", -1, LetByTheDegree::people);
        Edge.reads(Edge::busy, "rule()", "x", -1, LetByTheDegree::rule);
        Edge.reads(Edge::busy, "winter()", "x", -1, LetByTheDegree::winter);

        Edge.of(0, "The ROW stays with NONE and with each number below 0 that tells why there is no answer (-2, -3 ..)",
            "behind such answers");
        Edge.leaves(Edge::busy, "thick(0, 101)", -2, o -> o.thick(0, 101));
        Edge.leaves(Edge::busy, "thick(2, 1)", -3, o -> o.thick(2, 1));
        Edge.leaves(Edge::busy, "gives(), none", -2, o -> o.gives());
        Edge.leaves(Edge::bare, "burden()", -2, o -> o.burden());
        Edge.leaves(Edge::homeless, "look()", -2, o -> o.look());
        Edge.leaves(EdgeTermsTests::crowd, "longest()", -2, o -> o.longest());
        Edge.leaves(EdgeTermsTests::outside, "share(0)", -2, o -> o.share(0));
        LetByTheDegree x = Edge.busy();
        Due.is("sheet(3, 0, 0, 0)", x.sheet(3, 0, 0, 0), -3);
        Due.row(x, 26, 2, 0);
    }

    private static LetByTheDegree crowd() {
        LetByTheDegree x = Due.of("9,9/9,9", Edge.lines(5, "123456"));
        x.hour();
        return x;
    }

    private static LetByTheDegree meltingAway() {
        LetByTheDegree x = Due.thin("9", "a1:000000");
        Due.rule(x, "9");
        x.water();
        return x;
    }

    private static LetByTheDegree outside() {
        LetByTheDegree x = Due.thin("0", "a1:123456");
        x.hour();
        return x;
    }

    private static void calls() {
        Edge.of(0, "An object is used for at most 512 calls after it has been made", "the last of them, each an HOUR");
        LetByTheDegree x = new LetByTheDegree();
        for (int k = 0; k < 511; k++) {
            x.hour();
        }
        Due.is("the 512th call, count(8)", x.count(8), 511);

        Edge.of(0, "(all who are in ROOMS; unlike ROOMS; THE STOVE stays)",
            "one who is OUT is not asked, two don't share a ROOM, what THE STOVE melts can't be helped");
        LetByTheDegree y = Due.thin("0,9,9", "a1:900000;b1:000000;c1:000000");
        y.hour();
        Due.asks(y, "lodge(1)", 6, () -> y.lodge(1), 0, 1);
        y.stove(2);
        y.sheet(2, 3, 9, -4);
        Due.asks(y, "lodge(1) by THE STOVE", 0, () -> y.lodge(1));
        Due.asks(y, "longest() by THE STOVE", 0, () -> y.longest(), 0, 1);
        Due.asks(y, "burden() by THE STOVE", 1, () -> y.burden(), 0, 0);
        Due.leaves(y, "quiet(1) by THE STOVE", -2, () -> y.quiet(1));
    }
}
