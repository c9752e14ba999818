/** The edges of promises 12 to 18: hours. */
public final class EdgeHoursTests {
    public static void main(String[] args) {
        move();
        stove();
        hour();
        hours();
        pay();
        winterActs();
        winterStops();
        winterEnds();
        winterFull();
        undoWhat();
        undoHow();
        undoTwelve();
        undoForgotten();
        Due.end();
    }

    private static void move() {
        Edge.of(12, "One moves to a room (from OUT, too): where it was (9: OUT)", "the first room, the last, from OUT");
        LetByTheDegree x = Due.thin("9,9,9/9,9,9/9,9,0", "a1:000000;c3:000000");
        Due.is("move(0, 7) from the first", x.move(0, 7), 0);
        Due.is("move(1, 0) from the last", x.move(1, 0), 8);
        Due.is("move(1, 8)", x.move(1, 8), 0);
        x.hour();
        Edge.person(x, 1, -1, 0, 1);
        Due.is("move(1, 8) from OUT", x.move(1, 8), 9);
        Edge.person(x, 1, 8, 0, 1);
        Edge.counts(x, 10, 5);

        Edge.of(12, "-2: it is there; NONE: others.", "rooms beside the house, people that are not there, OUT");
        Edge.leaves(Edge::busy, "move(0, 3)", -2, o -> o.move(0, 3));
        Edge.leaves(Edge::busy, "move(1, 4)", -2, o -> o.move(1, 4));
        int[][] wrong = {{-1, 0}, {2, 0}, {5, 0}, {0, -1}, {0, 2}, {0, 5}, {0, 6}, {0, 9}, {Integer.MAX_VALUE, 0},
            {0, Integer.MIN_VALUE}, {2, 2}};
        for (int[] w : wrong) {
            Edge.leaves(Edge::busy, "move(" + w[0] + ", " + w[1] + ")", -1, o -> o.move(w[0], w[1]));
        }
        Edge.leaves(LetByTheDegree::new, "move(0, 0) of nobody", -1, o -> o.move(0, 0));
        LetByTheDegree out = outside();
        Due.is("move(0, -1) of one who is OUT", out.move(0, -1), -1);
    }

    private static LetByTheDegree outside() {
        LetByTheDegree x = Due.thin("0,5", "a1:400000;b1:000000");
        x.hour();
        return x;
    }

    private static void stove() {
        Edge.of(13, "THE STOVE is brought to a room (NONE: nowhere): where it was (9: nowhere).",
            "the first room, the last, nowhere, behind a fall");
        LetByTheDegree x = Due.thin("9,9,9/9,9,9/9,9,0", "");
        Due.is("stove(0) from nowhere", x.stove(0), 9);
        Due.is("stove(8)", x.stove(8), 0);
        Due.is("stove(-1)", x.stove(-1), 8);
        Due.is("stove(8)", x.stove(8), 9);
        x.hour();
        Edge.counts(x, 4, -1);
        Due.is("stove(8) behind its fall", x.stove(8), 9);

        Edge.of(13, "-2: it is there (nowhere already); NONE: no such room.", "and -2, which is no room");
        Edge.leaves(Edge::busy, "stove(1)", -2, o -> o.stove(1));
        Edge.leaves(Edge::bare, "stove(-1)", -2, o -> o.stove(-1));
        Edge.leaves(Edge::homeless, "stove(-1) without a house", -2, o -> o.stove(-1));
        Edge.leaves(Edge::homeless, "stove(0) without a house", -1, o -> o.stove(0));
        for (int r : new int[] {-2, 2, 5, 6, 9, Integer.MAX_VALUE, Integer.MIN_VALUE}) {
            Edge.leaves(Edge::busy, "stove(" + r + ")", -1, o -> o.stove(r));
        }
    }

    private static void hour() {
        Edge.of(14, "AN HOUR goes by: what melted in all; the ROW: ROOMS that GAVE (bits), PEOPLE that FELL in it (bits), THE POND.",
            "nothing of it; all of it");
        LetByTheDegree x = Due.of("9", "");
        Due.is("hour() of nothing", x.hour(), 0);
        Due.row(x, 0, 0, 0);
        LetByTheDegree y = Due.thin("9,9,9/9,9,9/9,9,9", Edge.lines(5, "000000"));
        Due.rule(y, "9");
        Due.is("hour() of all", y.hour(), 81);
        Due.row(y, 511, 31, 0);
        Edge.counts(y, 3, 31);
        Due.is("hour() behind all", y.hour(), 0);
        Due.row(y, 511, 0, 27);
        LetByTheDegree z = new LetByTheDegree();
        Due.is("hour() without a house", z.hour(), 0);
        Due.row(z, 0, 0, 0);
    }

    private static void hours() {
        Edge.of(15, "n HOURS (0 .. 60) go by", "none, one, 60");
        LetByTheDegree x = Due.of("99", "a1:111111");
        Due.is("hours(60)", x.hours(60), 0);
        Edge.counts(x, 8, 60, 0, 1);
        Edge.person(x, 0, 0, 60);
        Due.is("hours(1)", x.hours(1), 0);
        Edge.counts(x, 8, 61, 0, 2);
        Edge.asks(Edge::busy, "hours(0)", 0, o -> o.hours(0), 0, 0, 0);
        Edge.asks(LetByTheDegree::new, "hours(0)", 0, o -> o.hours(0), 0, 0, 0);

        Edge.of(15, "the ROW: ROOMS that GAVE in some (bits), PEOPLE that FELL (bits), THE POND",
            "unlike ones in unlike HOURS; of the last HOURS alone");
        LetByTheDegree y = Due.thin("1,2,9", "a1:222222;b1:222222");
        Due.is("hours(3)", y.hours(3), 3);
        Due.row(y, 3, 3, 3);
        Due.is("hours(1)", y.hours(1), 0);
        Due.row(y, 3, 0, 3);
        Due.is("hours(0), THE POND as it is", y.hours(0), 0);
        Due.row(y, 0, 0, 3);

        // In the second HOUR FROST has made a floor of room 3 again.
        LetByTheDegree z = Due.of("9/0", "a2:000000");
        Due.rule(z, "5*(h=0)");
        Due.is("hours(2)", z.hours(2), 5);
        Due.row(z, 8, 1, 0);
        Edge.room(z, 3, 2, 1);
        Due.is("hours(1)", z.hours(1), 0);
        Due.row(z, 0, 0, 1);

        Edge.of(15, "NONE: another n.", "-1, 61");
        for (int n : new int[] {-1, 61, Integer.MAX_VALUE, Integer.MIN_VALUE}) {
            Edge.leaves(Edge::busy, "hours(" + n + ")", -1, o -> o.hours(n));
        }
    }

    private static LetByTheDegree debtor() {
        LetByTheDegree x = Due.of("99", "a1:999999;a1:000000");
        x.set(2, 9);
        for (int k = 0; k < 3; k++) {
            x.hours(60);
        }
        return x;
    }

    private static void pay() {
        Edge.of(16, "One pays n (1 .. 9999) of what it OWES: OWES then.", "1, 9999, all of it; one who is OUT");
        LetByTheDegree x = debtor();
        Edge.person(x, 0, 0, 14580);
        Due.is("pay(0, 1)", x.pay(0, 1), 14579);
        Due.is("pay(0, 9999)", x.pay(0, 9999), 4580);
        Due.is("pay(0, 4580)", x.pay(0, 4580), 0);
        Edge.person(x, 0, 0, 0);
        LetByTheDegree y = outside();
        Due.is("pay(0, 4), OUT", y.pay(0, 4), 0);

        Edge.of(16, "Refused: others, it OWES less.", "0, 10000; one more than it OWES, of 0, too; nobody");
        int[][] wrong = {{0, 0}, {0, -1}, {0, 10000}, {1, 1}, {2, 1}, {-1, 1}, {0, Integer.MAX_VALUE}, {0, Integer.MIN_VALUE},
            {Integer.MIN_VALUE, 1}, {Integer.MAX_VALUE, 1}};
        for (int[] w : wrong) {
            Edge.leaves(EdgeHoursTests::debtor, "pay(" + w[0] + ", " + w[1] + ")", -1, o -> o.pay(w[0], w[1]));
        }
        Edge.leaves(EdgeHoursTests::outside, "pay(0, 5) of 4", -1, o -> o.pay(0, 5));
    }

    // ---- A WINTER

    private static void winterActs() {
        Edge.of(17, "(an empty one: no ACTS)", "nothing is done, the ROW is told");
        Edge.asks(() -> emptied(Edge.busy()), "winter() of nothing", 0, o -> o.winter(), 0, 0, 0);
        Edge.asks(LetByTheDegree::new, "winter() of nothing", 0, o -> o.winter(), 0, 0, 0);

        Edge.of(17, "h and perhaps a digit 1 .. 9: so many HOURS (1)", "h, h1, h9; h0");
        int[] hours = {1, 1, 9, 11};
        String[] texts = {"h", "h1", "h9", "h;h9;h1"};
        for (int k = 0; k < texts.length; k++) {
            LetByTheDegree x = Due.of("9", "");
            Due.is("winter() of " + texts[k], Due.winter(x, texts[k]), k == 3 ? 3 : 1);
            Edge.counts(x, 8, hours[k]);
        }
        winterWrong("h0", 1);
        winterWrong("h10", 2);

        Edge.of(17, "m, a digit (one of PEOPLE), a letter a .. c, a digit 1 .. 3: move()", "the first and the last of each");
        LetByTheDegree y = Due.of("9,9,9/9,9,9/9,9,9", Edge.lines(5, "000000"));
        Due.is("winter()", Due.winter(y, "m0c3;m4c3;m4a1;m3c1;m2a3"), 5);
        int[] rooms = {8, 0, 6, 2, 0};
        for (int p = 0; p < 5; p++) {
            Edge.person(y, p, rooms[p]);
        }
        winterWrong("mxa1", 1);
        winterWrong("m0d1", 2);
        winterWrong("m0`1", 2);
        winterWrong("m0a0", 3);
        winterWrong("m0a4", 3);

        Edge.of(17, "s, a letter, a digit, or s-: stove()", "the first and the last room, nowhere");
        LetByTheDegree z = Due.of("9,9,9/9,9,9/9,9,9", "");
        Due.is("winter()", Due.winter(z, "sa1;sc3"), 2);
        Edge.counts(z, 4, 8);
        Due.is("winter()", Due.winter(z, "s-"), 1);
        Edge.counts(z, 4, -1);
        winterWrong("sd1", 1);
        winterWrong("sa0", 2);
        winterWrong("sa4", 2);
        winterWrong("s-1", 2);

        Edge.of(17, "f and a digit: FROST", "0, 9, as it is already");
        LetByTheDegree w = Due.of("9", "");
        Due.is("winter()", Due.winter(w, "f9;f0"), 2);
        Edge.counts(w, 6, 0);
        Due.is("winter() of FROST as it is", Due.winter(w, "f0"), 1);
        Edge.counts(w, 10, 2);
        winterWrong("f10", 2);
        winterWrong("f-", 1);
    }

    private static LetByTheDegree emptied(LetByTheDegree x) {
        x.end(0);
        return x;
    }

    private static void stops(String text, int done) {
        LetByTheDegree x = emptied(Edge.busy());
        int undone = x.count(10);
        Due.is("winter() of " + text, Due.winter(x, text), done);
        Due.is("row(0) behind " + text, x.row(0), 1);
        Edge.counts(x, 10, done == 0 ? undone : undone + 1);
        Edge.counts(x, 12, 0);
    }

    private static void winterStops() {
        // One is in room 3, the other in room 4, THE STOVE in room 1; ROOMS are 0, 1, 3, 4.
        Edge.of(17, "till one can't be (it answers below 0, ROOMS that are not there): how many were done",
            "the first, the last, one between; each reason");
        for (String s : new String[] {"m0a2", "m2a1", "m5a1", "m9a1", "m0c1", "m0a3", "m0c3", "sb1", "sc1", "sa3", "sc3"}) {
            stops(s, 0);
            stops("h;" + s, 1);
            stops("f3;f2;" + s + ";h9", 2);
        }
        LetByTheDegree none = Due.of("9", "");
        Due.is("winter() of s-, nowhere already", Due.winter(none, "s-"), 0);
        Due.row(none, 1, 0, 0);
        LetByTheDegree homeless = new LetByTheDegree();
        Due.is("winter() without a house", Due.winter(homeless, "h9;f9;sa1;h9"), 2);
        Due.row(homeless, 1, 0, 0);
        Edge.counts(homeless, 8, 9);

        Edge.of(17, "what melted in all, how many FELL (each time)", "one who falls twice in an HOUR, and again behind a move");
        LetByTheDegree x = Due.thin("0,4/0,9", "a1:000000;b1:888888");
        Due.is("winter()", Due.winter(x, "h;m0a1;h2;m0a1"), 4);
        Due.row(x, 0, 12, 5);
        Edge.person(x, 0, 0, 0, 4);
        Edge.person(x, 1, 4, 24, 1);
    }

    private static void winterWrong(String s, int place) {
        Edge.reads(Edge::busy, "winter()", s, -1 - place, LetByTheDegree::winter);
    }

    private static void winterEnds() {
        Edge.of(17, "-1 - p: the sign at p can't stand there (as people()",
            "its end, if it ends too early, behind each sign of an ACT");
        winterWrong("h;", 2);
        winterWrong("m", 1);
        winterWrong("m0", 2);
        winterWrong("m0a", 3);
        winterWrong("s", 1);
        winterWrong("sa", 2);
        winterWrong("f", 1);
        winterWrong("h9;f0;m", 7);

        Edge.of(17, "nothing is done then", "ACTS that are right ahead of a wrong sign; at each place of an ACT");
        winterWrong("h9;f0;x", 6);
        winterWrong("x", 0);
        winterWrong(";", 0);
        winterWrong("H", 0);
        winterWrong("h;;h", 2);
        winterWrong("hh", 1);
        winterWrong("h,h", 1);
        winterWrong("m0a1h", 4);
        winterWrong("m00a1", 2);
        winterWrong("m-a1", 1);
        winterWrong("m0A1", 2);
        winterWrong("s--", 2);
        winterWrong("s0", 1);
        winterWrong("s1", 1);
        winterWrong("s11", 1);
        winterWrong("m01", 2);
        winterWrong("m011", 2);
        // The signs ahead of 0 and behind 9, ahead of a and behind c.
        winterWrong("h:", 1);
        winterWrong("h/", 1);
        winterWrong("f:", 1);
        winterWrong("f/", 1);
        winterWrong("m:a1", 1);
        winterWrong("m/a1", 1);
        winterWrong("s`1", 1);
        winterWrong("sa1x", 3);
        winterWrong("f5f", 2);
        winterWrong("h\u0000", 1);
    }

    private static void winterFull() {
        String half = "h;".repeat(29);
        Edge.of(17, "60 signs", "60 of them, 61, 80; a wrong one as the 60th; 60 that have to go on");
        LetByTheDegree x = Due.of("9", "");
        Due.is("winter() of 59 signs", Due.winter(x, half + "h"), 30);
        Edge.counts(x, 8, 30);
        Due.is("winter() of 60 signs", Due.winter(x, half + "h9"), 30);
        Edge.counts(x, 8, 68, 0, 2);
        winterWrong(half + "h;", 60);
        winterWrong(half + "h;h", 60);
        winterWrong(half + "h99", 60);
        winterWrong(half + "h9;", 60);
        winterWrong(half + "h9;h9;h9;h9;h9;h9;h9;h", 60);
        winterWrong(half + "hx", 59);
        winterWrong(half + "hx;h;h", 59);
        winterWrong(half + "h0", 59);
        winterWrong(half + "f", 59);
        winterWrong(half + "m0", 60);
        winterWrong(half + "m0a1", 60);
        winterWrong(half + "sa1", 60);
        winterWrong(half + "sa", 60);
        winterWrong(half + "sax", 60);
        winterWrong("h;".repeat(40), 60);
    }

    // ---- undone

    private static void undoWhat() {
        Edge.of(18, "(ICE, WATER, THE POND, where PEOPLE and THE STOVE are, OWES, FELL, NOW, FROST are as ahead of it)",
            "each of them, by each of the six calls");
        Edge.Call[] calls = {o -> o.move(0, 4), o -> o.stove(3), o -> o.hour(), o -> o.hours(60), o -> o.pay(0, 2),
            o -> Due.winter(o, "f5;h9;m0b2;sb2;h9;m1a1")};
        for (int k = 0; k < calls.length; k++) {
            LetByTheDegree x = melting();
            String ahead = Due.world(x) + x.water() + Due.rowOf(x);
            Due.is("whether call " + k + " was done", calls[k].on(x) >= 0, true);
            // What is set since is as it was ahead, too, if it is one of these.
            x.set(1, 8);
            x.sheet(2, 4, 77, 0);
            Due.is("undo() of call " + k, x.undo(), 2);
            String behind = Due.world(x) + x.water() + Due.rowOf(x);
            Due.is("all as ahead of call " + k, behind.equals(ahead), true);
        }

        Edge.of(18, "FROST are as ahead of it", "HEAT, PRICE, WARM, THE RULE, the ROW are not undone");
        LetByTheDegree y = melting();
        y.hour();
        y.set(0, 7);
        y.set(2, 8);
        y.doing(1, 0, 6);
        Due.rule(y, "1");
        y.water();
        String row = Due.rowOf(y);
        y.undo();
        Edge.counts(y, 5, 7, 0, 8);
        Due.is("doing(1, 0, 0)", y.doing(1, 0, 0), 6);
        Edge.room(y, 1, 9, 0, 0, 1);
        Due.is("whether the row stays", Due.rowOf(y).equals(row), true);
    }

    private static LetByTheDegree melting() {
        LetByTheDegree x = Due.thin("5,9/3,9", "a1:468246;b2:333333");
        x.hour();
        x.stove(0);
        return x;
    }

    private static void undoHow() {
        Edge.of(18, "such as were done", "refused calls are not undone");
        Edge.Call[] calls = {o -> o.move(0, 0), o -> o.move(0, 2), o -> o.stove(0), o -> o.stove(5), o -> o.hours(61),
            o -> o.hours(-1), o -> o.pay(0, 5), o -> o.pay(1, 0), o -> Due.winter(o, "x"), o -> Due.winter(o, "h9;h0")};
        for (int k = 0; k < calls.length; k++) {
            LetByTheDegree x = melting();
            Due.is("whether call " + k + " was refused", calls[k].on(x) < 0, true);
            Edge.counts(x, 10, 2);
        }

        Edge.of(18, "hours() of 1 and more, winter() of which one ACT was done, as one",
            "hours(0), hours(1), hours(60); no ACT, one, two");
        Edge.Call[] more = {o -> o.hours(0), o -> o.hours(1), o -> o.hours(60), o -> Due.winter(o, ""), o -> Due.winter(o, "sa1;h"),
            o -> Due.winter(o, "h;sa1"), o -> Due.winter(o, "f1"), o -> Due.winter(o, "h;f5;h9;s-")};
        int[] kept = {2, 3, 3, 2, 2, 3, 3, 3};
        for (int k = 0; k < more.length; k++) {
            LetByTheDegree x = melting();
            Due.is("whether call " + k + " was answered", more[k].on(x) >= 0, true);
            Edge.counts(x, 10, kept[k]);
            if (kept[k] == 3) {
                x.undo();
            }
            Edge.counts(x, 6, 0, 1, 1);
        }

        Edge.of(18, "Refused: none.", "a new object, behind the last that could be undone");
        Edge.leaves(LetByTheDegree::new, "undo()", -1, o -> o.undo());
        Edge.leaves(() -> undone(melting(), 2), "undo()", -1, o -> o.undo());
    }

    private static LetByTheDegree undone(LetByTheDegree x, int n) {
        for (int k = 1; k <= n; k++) {
            Due.is("undo()", x.undo(), n - k);
        }
        return x;
    }

    private static void undoTwelve() {
        Edge.of(18, "(of 12 that are kept, the latest ones", "11, 12, 13, 30 of them");
        for (int n : new int[] {11, 12, 13, 30}) {
            LetByTheDegree x = Due.of("9", "");
            for (int k = 1; k <= n; k++) {
                x.hour();
                Edge.counts(x, 10, Math.min(k, 12));
            }
            int most = Math.min(n, 12);
            for (int k = 1; k <= most; k++) {
                Due.is("undo()", x.undo(), most - k);
                Edge.counts(x, 8, n - k);
            }
            Due.is("undo() of none", x.undo(), -1);
            Edge.counts(x, 8, n - most);
        }
        // Behind some undone others come, and the oldest are forgotten only where there are more than twelve.
        LetByTheDegree y = Due.of("9", "");
        for (int k = 0; k < 12; k++) {
            y.hour();
        }
        Due.is("undo()", y.undo(), 11);
        y.hours(5);
        Edge.counts(y, 8, 16, 0, 12);
        y.hours(7);
        Edge.counts(y, 8, 23, 0, 12);
        int[] now = {16, 11, 10, 9, 8, 7, 6, 5, 4, 3, 2, 1};
        for (int k = 0; k < 12; k++) {
            Due.is("undo()", y.undo(), 11 - k);
            Edge.counts(y, 8, now[k]);
        }
        Due.is("undo() of none", y.undo(), -1);
    }

    private static void undoForgotten() {
        Edge.of(18, "(house(), people() and again() forget them, if they are not refused; an empty people() does not.)",
            "each, refused and not");
        LetByTheDegree x = melting();
        x.keep(0);
        Due.house(x, "1,");
        Edge.counts(x, 10, 2);
        Due.house(x, "");
        Edge.counts(x, 10, 2);
        Due.people(x, "a1:12345");
        Edge.counts(x, 10, 2);
        Due.people(x, "");
        Edge.counts(x, 10, 2);
        x.again(1);
        Edge.counts(x, 10, 2);
        x.again(2);
        Edge.counts(x, 10, 2);
        Due.is("again(0)", x.again(0), true);
        Edge.counts(x, 10, 0);
        x.hour();
        Due.is("people()", Due.people(x, "a1:123456"), 1);
        Edge.counts(x, 10, 0);
        x.hour();
        Due.is("again(0) that is refused, as PEOPLE came", x.again(0), false);
        Edge.counts(x, 10, 1);
        Due.is("house()", Due.house(x, "1"), 1);
        Edge.counts(x, 10, 0);
        Due.is("undo()", x.undo(), -1);
    }
}
