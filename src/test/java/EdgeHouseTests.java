/** The edges of promises 1 to 11: the house, the people. */
public final class EdgeHouseTests {
    public static void main(String[] args) {
        newObject();
        sign();
        end();
        houseAnew();
        houseEnds();
        houseTooMany();
        people();
        peopleEnds();
        peopleRooms();
        peopleFull();
        rule();
        ruleEnds();
        ruleFull();
        room();
        person();
        set();
        doing();
        sheetEntries();
        sheetPut();
        sheetMissing();
        sheetRefused();
        Due.end();
    }

    private static void newObject() {
        Edge.of(1, "No ROOMS, nobody.", "all that can be told of it");
        LetByTheDegree x = new LetByTheDegree();
        Edge.counts(x, 0, 0, 0, 0, 0, -1, 5, 2, 1, 0, 0, 0, 0, 0);
        Due.is("rooms", Edge.rooms(x), 0);
        Due.throwsNone("person(0, 0)", () -> x.person(0, 0));
        Due.throwsNone("row(0)", () -> x.row(0));
        Due.is("again(0)", x.again(0), false);
        Due.is("again(1)", x.again(1), false);
        Due.is("undo()", x.undo(), -1);
        Due.is("end(1)", x.end(1), false);
    }

    // ---- THE TEXT

    private static void sign() {
        Edge.of(2, "Four signs come behind THE TEXT, of v the highest byte first: how many it has.",
            "signs 0 and 255, v below 0");
        LetByTheDegree x = new LetByTheDegree();
        Due.is("sign(0)", x.sign(0), 4);
        Due.is("sign(-1)", x.sign(-1), 8);
        Due.is("house() of signs 0", x.house(), -1);
        Due.is("sign(-1)", x.sign(-1), 4);
        Due.is("house() of signs 255", x.house(), -1);
        x.sign('1' << 24 | '2' << 16);
        Due.is("house() of 1, 2 and two signs 0", x.house(), -3);
        x.sign('1' << 24 | '2' << 16 | 255 << 8);
        Due.is("house() of 1, 2, sign 255", x.house(), -3);
        // The sign '1' with its highest bit is no digit.
        x.sign((128 | '1') << 24);
        x.end(1);
        Due.is("house() of sign " + (128 | '1'), x.house(), -1);
        x.sign('1' << 24 | ',' << 16 | '2' << 8 | ',');
        x.sign('3' << 24);
        x.end(5);
        Due.is("house() of 1,2,3", x.house(), 3);
        Edge.room(x, 0, 1);
        Edge.room(x, 2, 3);

        Edge.of(2, "Refused: there would be more than 80.", "80, and four more than 77, 78, 79, 80");
        LetByTheDegree y = new LetByTheDegree();
        for (int k = 1; k <= 20; k++) {
            Due.is("sign()", y.sign(k), 4 * k);
        }
        for (int n = 80; n > 76; n--) {
            y.end(n);
            Due.is("sign() behind " + n, y.sign(0), -1);
            Due.is("count(12) behind " + n, y.count(12), n);
        }
        y.end(76);
        Due.is("sign() behind 76", y.sign(0), 80);
        // An object that is told as full: what is refused changes nothing of THE TEXT.
        LetByTheDegree z = new LetByTheDegree();
        Due.type(z, "4/5" + "x".repeat(77));
        Due.is("sign()", z.sign(-1), -1);
        z.end(3);
        Due.is("house()", z.house(), 2);
    }

    private static void end() {
        Edge.of(3, "THE TEXT has its first n signs alone: true", "none, one, all of them");
        LetByTheDegree x = new LetByTheDegree();
        Due.is("end(0) of none", x.end(0), true);
        Due.type(x, "4,56");
        Due.is("end(4)", x.end(4), true);
        Edge.counts(x, 12, 4);
        Due.is("end(3)", x.end(3), true);
        Due.is("house() of 4,5", x.house(), 2);
        Edge.room(x, 1, 5);
        Due.type(x, "7/8");
        Due.is("end(1)", x.end(1), true);
        Due.is("house() of 7", x.house(), 1);
        Due.type(x, "7/8");
        Due.is("end(0)", x.end(0), true);
        Due.is("people() of nothing", x.people(), 0);
        Due.type(x, "x".repeat(80));
        Due.is("end(80)", x.end(80), true);
        Edge.counts(x, 12, 80);

        Edge.of(3, "false if it has not so many, or n is below 0", "one more, of the full text, too; -1");
        Edge.leaves(Edge::busy, "end(4) of 4", 1, o -> o.end(4) ? 1 : 0);
        for (int n : new int[] {5, 80, 81, Integer.MAX_VALUE, -1, Integer.MIN_VALUE}) {
            Edge.leaves(Edge::busy, "end(" + n + ") of 4", 0, o -> o.end(n) ? 1 : 0);
        }
        Due.is("end(81) of 80", x.end(81), false);
        Edge.counts(x, 12, 80);
        // Signs that were cut off don't come back.
        LetByTheDegree y = new LetByTheDegree();
        Due.type(y, "1,2");
        y.end(1);
        Due.is("end(3) behind end(1)", y.end(3), false);
        Due.is("house()", y.house(), 1);
    }

    // ---- THE HOUSE

    private static void houseAnew() {
        Edge.of(4, "THE TEXT is THE HOUSE anew: how many ROOMS", "a greater one, a smaller one, the same once more");
        LetByTheDegree x = new LetByTheDegree();
        String[] houses = {"1", "1,2,3/4,5,6/7,8,9", "7/8", "7/8", "1,2,3"};
        int[] rooms = {1, 511, 1 | 8, 1 | 8, 7};
        for (int k = 0; k < houses.length; k++) {
            Due.is("house() of " + houses[k], Due.house(x, houses[k]), Integer.bitCount(rooms[k]));
            Due.is("rooms of " + houses[k], Edge.rooms(x), rooms[k]);
            x.sheet(3, 0, 0, 0);
            Edge.counts(x, 9, rooms[k]);
        }

        Edge.of(4, "nobody is there", "of five, two of them OUT, and they come anew as for a new object");
        LetByTheDegree y = Due.thin("0,99", "a1:999999;a1:000000;b1:333333;b1:444444;b1:555555");
        y.hours(2);
        Edge.counts(y, 2, 5, 3);
        Due.house(y, "9");
        Edge.counts(y, 2, 0, 0);
        Due.throwsNone("person(0, 0)", () -> y.person(0, 0));
        Due.is("people() of five", Due.people(y, Edge.lines(5, "123456")), 5);
        for (int p = 0; p < 5; p++) {
            Edge.person(y, p, 0, 0, 0, 1, 21);
        }

        Edge.of(4, "THE STOVE is nowhere, THE POND 0, NOW 0, nothing can be undone, nothing is kept",
            "each of them, by a house that is like the one ahead");
        LetByTheDegree z = Due.thin("9/9", "a2:999999");
        z.keep(0);
        z.keep(1);
        z.hours(7);
        Due.row(z, 8, 1, 9);
        Edge.counts(z, 8, 7, 8, 1);
        z.stove(0);
        Due.house(z, "9/9");
        Edge.counts(z, 4, -1);
        Edge.counts(z, 8, 0, 0, 0);
        Due.is("undo()", z.undo(), -1);
        Due.is("again(0)", z.again(0), false);
        Due.is("again(1)", z.again(1), false);
        Due.asks(z, "water()", 18, () -> z.water(), 18, 0, 0);
        // With nobody then and now, and WATER everywhere.
        LetByTheDegree v = Due.thin("9,9/9,9", "");
        Due.rule(v, "3");
        v.keep(0);
        v.keep(1);
        v.hour();
        Due.asks(v, "water()", 36, () -> v.water(), 24, 12, 0);
        Due.house(v, "9,9/9,9");
        Due.is("again(0)", v.again(0), false);
        Due.is("again(1)", v.again(1), false);
        Due.asks(v, "water()", 36, () -> v.water(), 36, 0, 0);

        Edge.of(4, "THE HOUSE anew", "what the document doesn't name stays: HEAT, FROST, PRICE, THE RULE, the ROW");
        LetByTheDegree w = Edge.busy();
        w.set(1, 7);
        w.end(0);
        Due.house(w, "50");
        Edge.counts(w, 5, 4, 7, 3);
        Due.row(w, 26, 2, 0);
        Due.rule(w, "w+a+1");
        Due.house(w, "60");
        Edge.room(w, 0, 60, 0, 0, 1);
    }

    private static void houseWrong(String s, int place) {
        Edge.reads(Edge::busy, "house()", s, -1 - place, LetByTheDegree::house);
        Edge.reads(LetByTheDegree::new, "house()", s, -1 - place, LetByTheDegree::house);
    }

    private static void houseEnds() {
        Edge.of(4, "-1 - p: the sign at p can't stand there",
            "the first sign, one behind a digit, behind two, behind a comma, behind a /");
        houseWrong("x", 0);
        houseWrong(",1", 0);
        houseWrong("/1", 0);
        houseWrong("-1", 0);
        houseWrong("1x", 1);
        houseWrong("12x", 2);
        houseWrong("123", 2);
        houseWrong("1,x", 2);
        houseWrong("1,/2", 2);
        houseWrong("1/x", 2);
        houseWrong("1/,2", 2);
        houseWrong("1;2", 1);
        houseWrong(":", 0);
        houseWrong("1:", 1);
        houseWrong("1,:", 2);
        houseWrong("1,2\u0000", 3);
        houseWrong("1,2" + "x".repeat(77), 3);

        Edge.of(4, "(its end, if it ends too early", "the empty text; behind a comma; behind a /");
        houseWrong("", 0);
        houseWrong("1,", 2);
        houseWrong("12,", 3);
        houseWrong("1,2,", 4);
        houseWrong("1/", 2);
        houseWrong("1,2/3,", 6);
        houseWrong("1/2/", 4);
        houseWrong("1,2/", 4);

        Edge.of(4, "or a storey has too few ROOMS", "the second, the third, one that is not the last");
        houseWrong("1,2/3", 5);
        houseWrong("1,2,3/4,5", 9);
        houseWrong("1,2/3,4/5", 9);
        houseWrong("1,2/3/4,5", 5);
        houseWrong("1,2,3/4/5,6,7", 7);
        houseWrong("1,2,3/4,5,6/7,8", 15);
    }

    private static void houseTooMany() {
        Edge.of(4, "a fourth ROOM's comma of the first storey", "at it, whatever comes behind it");
        houseWrong("1,2,3,4", 5);
        houseWrong("1,2,3,", 5);
        houseWrong("1,2,3,x", 5);
        houseWrong("99,99,99,99", 8);

        Edge.of(4, "a comma too many", "in the second storey, in the third, of each number of columns");
        houseWrong("1/2,3", 3);
        houseWrong("1/2,", 3);
        houseWrong("1,2/3,4,5", 7);
        houseWrong("1/2/3,4", 5);
        houseWrong("1,2,3/4,5,6,7", 11);
        houseWrong("99,99,99/99,99,99/99,99,99,", 26);

        Edge.of(4, "a fourth storey's /: at it", "of each number of columns, whatever comes behind it");
        houseWrong("1/2/3/4", 5);
        houseWrong("1/2/3/", 5);
        houseWrong("1,2/3,4/5,6/7,8", 11);
        houseWrong("99,99,99/99,99,99/99,99,99/", 26);
    }

    // ---- PEOPLE

    private static void people() {
        Edge.of(5, "THE TEXT tells of PEOPLE (an empty one: nothing): how many LINES",
            "no LINE, one, five; more in a second text");
        Edge.reads(Edge::busy, "people()", "", 0, LetByTheDegree::people);
        Edge.reads(LetByTheDegree::new, "people()", "", 0, LetByTheDegree::people);
        LetByTheDegree x = Due.of("9,9/9,9", "");
        Due.is("people() of one", Due.people(x, "b2:900007"), 1);
        Edge.person(x, 0, 4, 0, 0, 9, 16);
        Due.is("people() of four more", Due.people(x, Edge.lines(4, "000000")), 4);
        Edge.counts(x, 2, 5);
        Due.is("people() of nothing, where five are", Due.people(x, ""), 0);
        LetByTheDegree y = Due.of("9", "");
        Due.is("people() of five", Due.people(y, Edge.lines(5, "999999")), 5);

        Edge.of(5, "Nothing of it comes, if a LINE can't.", "the last of five, of two");
        String four = Edge.lines(4, "123456");
        peopleWrong("b2:111111;a1:22222x", 18);
        peopleWrong("b2:111111;c1:222222", 10);
        Edge.reads(() -> Due.of("9", ""), "people()", four + ";a1:12345", -1 - 48, LetByTheDegree::people);
        Edge.reads(() -> Due.of("9", ""), "people()", four + ";a2:123456", -1 - 41, LetByTheDegree::people);
    }

    private static void peopleWrong(String s, int place) {
        Edge.reads(Edge::busy, "people()", s, -1 - place, LetByTheDegree::people);
    }

    private static void peopleEnds() {
        Edge.of(5, "(its end, if it ends too early", "behind each sign of a LINE, and behind its ;");
        String line = "a1:123456";
        for (int n = 1; n < line.length(); n++) {
            peopleWrong(line.substring(0, n), n);
        }
        peopleWrong(line + ";", 10);
        peopleWrong(line + ";b", 11);
        peopleWrong(line + ";b2:00000", 18);

        Edge.of(5, "-1 - p: the sign at p can't stand there", "at each place of a LINE, and behind it");
        for (int n = 0; n < line.length(); n++) {
            peopleWrong(line.substring(0, n) + "x" + line.substring(n + 1), n);
        }
        peopleWrong(line + "7", 9);
        peopleWrong(line + ",", 9);
        peopleWrong(line + ";;", 10);
        peopleWrong(";", 0);
        peopleWrong("A1:123456", 0);
        peopleWrong("a1;123456", 2);
        peopleWrong("a1:-23456", 3);
        peopleWrong("a1::23456", 3);
        peopleWrong("a1:/23456", 3);
        peopleWrong("a1:12345:", 8);
        peopleWrong("a::123456", 1);
        peopleWrong(line + "\u0000", 9);
    }

    private static void peopleRooms() {
        Edge.of(5, "a letter, a digit of no ROOM: at it", "the last column and storey of each house, and one more");
        for (int c = 1; c <= 3; c++) {
            for (int s = 1; s <= 3; s++) {
                String storey = c == 1 ? "9" : c == 2 ? "9,9" : "9,9,9";
                String house = s == 1 ? storey : s == 2 ? storey + "/" + storey : storey + "/" + storey + "/" + storey;
                String last = "" + (char) ('a' + c - 1) + s;
                LetByTheDegree x = Due.of(house, last + ":000000");
                Edge.person(x, 0, 3 * (s - 1) + c - 1);
                Edge.reads(() -> Due.of(house, ""), "people()", (char) ('a' + c) + "1:000000", -1, LetByTheDegree::people);
                Edge.reads(() -> Due.of(house, ""), "people()", "a" + (s + 1) + ":000000", -2, LetByTheDegree::people);
            }
        }
        peopleWrong("a0:000000", 1);
        peopleWrong("`1:000000", 0);
        // Without a house there is no ROOM at all.
        Edge.reads(Edge::homeless, "people()", "a1:000000", -1, LetByTheDegree::people);
    }

    private static void peopleFull() {
        Edge.of(5, "the first sign of a LINE for which there is no room", "a sixth LINE; where three, four, five are already");
        for (int there = 0; there <= 5; there++) {
            String lines = Edge.lines(there, "123456");
            int room = 5 - there;
            for (String more : new String[] {"a1:123456", "x", ""}) {
                String s = room == 0 ? more : Edge.lines(room, "000000") + ";" + more;
                if (!s.isEmpty()) {
                    Edge.reads(() -> Due.of("9", lines), "people()", s, -1 - 10 * room, LetByTheDegree::people);
                }
            }
            if (room > 0) {
                LetByTheDegree x = Due.of("9", lines);
                Due.is("people() of as many as there is room for", Due.people(x, Edge.lines(room, "000000")), room);
                Edge.counts(x, 2, 5);
            }
        }

        // Five LINES have 49 signs, and a sixth can't stand: a longer text has a wrong sign ahead of the 76th.
        Edge.of(5, "76, if it has more and the first 76 could go on or end", "a text of 76 signs, of 77, of 80");
        String seven = Edge.lines(7, "123456");
        for (String s : new String[] {seven + ";a1:1234", seven + ";a1:12345", seven + ";a1:123456"}) {
            Edge.reads(() -> Due.of("9", ""), "people()", s, -51, LetByTheDegree::people);
        }
    }

    // ---- THE RULE

    private static void ruleWrong(String s, int place) {
        Edge.reads(Edge::busy, "rule()", s, -1 - place, LetByTheDegree::rule);
    }

    private static void rule() {
        Edge.of(6, "THE TEXT is THE RULE (an empty one: none): 0.", "none behind one: w/2 again; a text of one sign");
        LetByTheDegree x = Due.of("99", "a1:999999");
        Edge.melts(x, "", 4);
        Edge.melts(x, "w", 9);
        Edge.melts(x, "", 4);
        Edge.melts(x, "5", 5);
        Edge.melts(x, "i", 99);
        Edge.counts(x, 12, 0);
        LetByTheDegree y = new LetByTheDegree();
        Due.is("rule() without a house", Due.rule(y, "i"), 0);
        Due.house(y, "7");
        Edge.room(y, 0, 7, 0, 0, 7);

        Edge.of(6, "-1 - p: as people()", "the first sign; a sign behind a thing, behind an operator, behind a bracket");
        ruleWrong("x", 0);
        ruleWrong("W", 0);
        ruleWrong(")", 0);
        ruleWrong("*w", 0);
        ruleWrong("<w", 0);
        ruleWrong("ww", 1);
        ruleWrong("w1", 1);
        ruleWrong("1w", 1);
        ruleWrong("w(i)", 1);
        ruleWrong("(w)i", 3);
        ruleWrong("w)", 1);
        ruleWrong("w+*i", 2);
        ruleWrong(":", 0);
        ruleWrong("1:", 1);
        ruleWrong("12:", 2);
        ruleWrong("w<=i", 2);
        ruleWrong("w-)", 2);
        ruleWrong("(w]", 2);
        ruleWrong(" w", 0);
        ruleWrong("w\u0000", 1);
    }

    private static void ruleEnds() {
        Edge.of(6, "-1 - p: as people()", "its end, if it ends too early");
        ruleWrong("w+", 2);
        ruleWrong("w*", 2);
        ruleWrong("w=", 2);
        ruleWrong("-", 1);
        ruleWrong("(", 1);
        ruleWrong("(w", 2);
        ruleWrong("(w+", 3);
        ruleWrong("((((w)))", 8);
        ruleWrong("(12", 3);
    }

    private static void ruleFull() {
        String forty = "w" + "+i".repeat(18) + "+99";
        String good = "w" + "+i".repeat(19);
        Edge.of(6, "(40 signs)", "40 signs, 41, 80");
        LetByTheDegree x = Due.of("99", "");
        Due.is("signs", forty.length(), 40);
        Edge.melts(x, "5" + "+0".repeat(19), 5);
        Edge.melts(x, "4" + "+0".repeat(18) + "+55", 59);
        ruleWrong("5" + "+0".repeat(18) + "+555", 40);
        ruleWrong(good + "+", 40);
        ruleWrong(good + "i", 39);
        ruleWrong(good + "+i", 40);
        ruleWrong(forty + "+i", 40);
        ruleWrong(forty + "x", 40);
        ruleWrong(forty + "+i".repeat(20), 40);
        ruleWrong("-".repeat(80), 40);

        // Where the 40 first signs could go on or end, it is at 40; where one of them can't stand, at that one.
        Edge.of(6, "as people() (40 signs)", "a wrong sign as the 40th, as the 41st; 40 signs that have to go on");
        ruleWrong("-".repeat(39) + "x", 39);
        ruleWrong("-".repeat(39) + "x" + "i".repeat(30), 39);
        ruleWrong("-".repeat(40), 40);
        ruleWrong("-".repeat(40) + "x", 40);
        ruleWrong("-".repeat(38) + "(w", 40);
        ruleWrong("-".repeat(38) + "(w)", 40);
        ruleWrong("-".repeat(36) + "1000", 39);
        ruleWrong("-".repeat(37) + "1000", 40);
        ruleWrong("x" + "w".repeat(79), 0);
    }

    // ---- what is told

    private static void room() {
        Edge.of(7, "what 0: ICE, 1: WATER, 2: WARMTH in HOUR NOW, 3: what would MELT now, 4: PEOPLE in it (bits), 5: 1 if THE STOVE is",
            "none of all that; all of it");
        LetByTheDegree x = Due.of("0,99", "b1:999999;b1:999999;b1:999999;b1:999999;b1:999999");
        x.set(0, 9);
        x.stove(1);
        Edge.room(x, 0, 0, 0, 0, 0, 0, 0);
        Edge.room(x, 1, 99, 0, 54, 27, 31, 1);

        Edge.of(7, "NoSuchElementException: none such, another what.",
            "one less than the first, one more than the last; beside the columns, below the storeys");
        LetByTheDegree y = Edge.busy();
        for (int r : new int[] {-1, 2, 5, 6, 9, Integer.MAX_VALUE, Integer.MIN_VALUE}) {
            Due.throwsNone("room(" + r + ", 0)", () -> y.room(r, 0));
        }
        for (int what : new int[] {-1, 6, Integer.MAX_VALUE, Integer.MIN_VALUE}) {
            Due.throwsNone("room(4, " + what + ")", () -> y.room(4, what));
            Due.throwsNone("room(5, " + what + ")", () -> y.room(5, what));
        }
        LetByTheDegree full = Due.of("1,2,3/4,5,6/7,8,9", "");
        Edge.room(full, 8, 9);
        Due.throwsNone("room(9, 0)", () -> full.room(9, 0));
        Due.throwsNone("room(-1, 0)", () -> full.room(-1, 0));
    }

    private static void person() {
        Edge.of(8, "what 0: the room (NONE: OUT), 1: OWES, 2: FELL, 3: WARM in HOUR NOW, 4: WARM of the whole cycle",
            "nothing of it; OUT; WARM 9 in all HOURS");
        LetByTheDegree x = Due.thin("0,9", "b1:000000;a1:999999");
        Edge.person(x, 0, 1, 0, 0, 0, 0);
        Edge.person(x, 1, 0, 0, 0, 9, 54);
        x.hour();
        Edge.person(x, 0, 1, 0, 0, 0, 0);
        Edge.person(x, 1, -1, 9, 1, 9, 54);

        Edge.of(8, "NoSuchElementException: likewise.", "one less than the first, one more than the last");
        for (int what : new int[] {-1, 5, Integer.MAX_VALUE, Integer.MIN_VALUE}) {
            Due.throwsNone("person(1, " + what + ")", () -> x.person(1, what));
            Due.throwsNone("person(2, " + what + ")", () -> x.person(2, what));
        }
        for (int p : new int[] {-1, 2, 5, Integer.MAX_VALUE, Integer.MIN_VALUE}) {
            Due.throwsNone("person(" + p + ", 0)", () -> x.person(p, 0));
        }
        LetByTheDegree full = Due.of("9", Edge.lines(5, "000000"));
        Edge.person(full, 4, 0);
        Due.throwsNone("person(5, 0)", () -> full.person(5, 0));
    }

    // ---- what is set

    private static void set() {
        Edge.of(9, "HEAT (what 0), FROST (1), PRICE (2) becomes v (0 .. 9): what it was.",
            "the least and the most of each, and the same again");
        LetByTheDegree x = new LetByTheDegree();
        int[] atFirst = {5, 2, 1};
        for (int what = 0; what < 3; what++) {
            Due.is("set(" + what + ", 0)", x.set(what, 0), atFirst[what]);
            Due.is("set(" + what + ", 9)", x.set(what, 9), 0);
            Due.is("set(" + what + ", 9)", x.set(what, 9), 9);
            Edge.counts(x, 5 + what, 9);
            Due.is("set(" + what + ", " + what + ")", x.set(what, what), 9);
        }
        Edge.counts(x, 5, 0, 1, 2);

        Edge.of(9, "Refused: others.", "one less and one more of each");
        int[][] wrong = {{-1, 5}, {3, 5}, {0, -1}, {0, 10}, {1, -1}, {1, 10}, {2, -1}, {2, 10}, {Integer.MAX_VALUE, 0},
            {0, Integer.MIN_VALUE}};
        for (int[] w : wrong) {
            Edge.leaves(Edge::busy, "set(" + w[0] + ", " + w[1] + ")", -1, o -> o.set(w[0], w[1]));
        }
    }

    private static void doing() {
        Edge.of(10, "WARM of one in HOUR k of the cycle (0 .. 5) becomes v (0 .. 9): what it was.",
            "the first and the last of PEOPLE and HOURS, the least and the most");
        LetByTheDegree x = Due.of("9", Edge.lines(5, "123456"));
        for (int p = 0; p < 5; p += 4) {
            Due.is("doing(" + p + ", 0, 9)", x.doing(p, 0, 9), 1);
            Due.is("doing(" + p + ", 0, 9)", x.doing(p, 0, 9), 9);
            Due.is("doing(" + p + ", 5, 0)", x.doing(p, 5, 0), 6);
            Due.is("doing(" + p + ", 5, 1)", x.doing(p, 5, 1), 0);
            Edge.person(x, p, 0, 0, 0, 9, 24);
        }
        Edge.person(x, 1, 0, 0, 0, 1, 21);
        LetByTheDegree y = Due.thin("0", "a1:222222");
        y.hour();
        Due.is("doing() of one who is OUT", y.doing(0, 1, 7), 2);
        Edge.person(y, 0, -1, 2, 1, 7, 17);

        Edge.of(10, "Refused: others.", "one less and one more of each; nobody");
        int[][] wrong = {{-1, 0, 1}, {2, 0, 1}, {5, 0, 1}, {0, -1, 1}, {0, 6, 1}, {0, 0, -1}, {0, 0, 10}, {1, 6, 1},
            {Integer.MIN_VALUE, 0, 1}, {0, Integer.MAX_VALUE, 1}, {0, 0, Integer.MAX_VALUE}, {0, Integer.MIN_VALUE, 1}};
        for (int[] w : wrong) {
            Edge.leaves(Edge::busy, "doing(" + w[0] + ", " + w[1] + ", " + w[2] + ")", -1, o -> o.doing(w[0], w[1], w[2]));
        }
        Edge.leaves(LetByTheDegree::new, "doing(0, 0, 0)", -1, o -> o.doing(0, 0, 0));
    }

    // ---- the sheet

    private static void ice(LetByTheDegree x, int... want) {
        int columns = x.count(0);
        for (int k = 0; k < want.length; k++) {
            Edge.room(x, 3 * (k / columns) + k % columns, want[k]);
        }
    }

    private static void sheetEntries() {
        Edge.of(11, "ICE of ROOMS as they are told", "storey by storey, of two columns; nothing else is changed");
        LetByTheDegree x = Due.of("9,9/9,9", "a1:999999");
        x.hour();
        x.stove(1);
        Due.is("sheet(2, 4, 10, 10)", x.sheet(2, 4, 10, 10), 100);
        ice(x, 10, 20, 30, 40);
        Edge.room(x, 0, 10, 2, 9, 4, 1, 0);
        Edge.counts(x, 4, 1);
        Edge.counts(x, 8, 1, 0, 2, 3);
        Due.row(x, 0, 0, 0);

        Edge.of(11, "those behind it have 0: the sum of all", "none of n entries, one, all, more than there are ROOMS");
        Due.is("sheet(2, 0, 7, 7)", x.sheet(2, 0, 7, 7), 0);
        ice(x, 0, 0, 0, 0);
        Due.is("sheet(2, 1, 7, 7)", x.sheet(2, 1, 7, 7), 7);
        ice(x, 7, 0, 0, 0);
        Due.is("sheet(2, 3, 7, 7)", x.sheet(2, 3, 7, 7), 42);
        ice(x, 7, 14, 21, 0);
        Due.is("sheet(2, 9, 7, 7), the sum of what ROOMS have", x.sheet(2, 9, 7, 7), 70);
        ice(x, 7, 14, 21, 28);
        LetByTheDegree nine = Due.of("0,0,0/0,0,0/0,0,0", "");
        Due.is("sheet(2, 9, 1, 1)", nine.sheet(2, 9, 1, 1), 45);
        ice(nine, 1, 2, 3, 4, 5, 6, 7, 8, 9);
        Due.is("sheet(2, 8, 1, 1)", nine.sheet(2, 8, 1, 1), 36);
        ice(nine, 1, 2, 3, 4, 5, 6, 7, 8, 0);
        LetByTheDegree none = new LetByTheDegree();
        Due.is("sheet(2, 9, 1, 1) of no ROOMS", none.sheet(2, 9, 1, 1), 0);
    }

    private static void sheetPut() {
        Edge.of(11, "put to 0 .. 99", "one less, 0, 99, one more; steps below 0 and of 0");
        LetByTheDegree x = Due.of("9,9/9,9", "");
        Due.is("sheet(2, 3, -1, 1)", x.sheet(2, 3, -1, 1), 1);
        ice(x, 0, 0, 1, 0);
        Due.is("sheet(2, 4, 98, 1)", x.sheet(2, 4, 98, 1), 395);
        ice(x, 98, 99, 99, 99);
        Due.is("sheet(2, 4, 1, -1)", x.sheet(2, 4, 1, -1), 1);
        ice(x, 1, 0, 0, 0);
        Due.is("sheet(2, 4, 5, 0)", x.sheet(2, 4, 5, 0), 20);

        Edge.of(11, "of bytes, shorts the lowest bits, with their sign",
            "the greatest byte and short, the next, all bits, 0 again");
        Due.is("sheet(0, 2, 127, 1)", x.sheet(0, 2, 127, 1), 99);
        ice(x, 99, 0, 0, 0);
        Due.is("sheet(0, 4, 254, 1)", x.sheet(0, 4, 254, 1), 1);
        ice(x, 0, 0, 0, 1);
        Due.is("sheet(0, 1, 256 + 42, 0)", x.sheet(0, 1, 256 + 42, 0), 42);
        Due.is("sheet(0, 1, -256 + 42, 0)", x.sheet(0, 1, -256 + 42, 0), 42);
        Due.is("sheet(0, 1, 65536 + 42, 0)", x.sheet(0, 1, 65536 + 42, 0), 42);
        Due.is("sheet(1, 2, 32767, 1)", x.sheet(1, 2, 32767, 1), 99);
        ice(x, 99, 0, 0, 0);
        Due.is("sheet(1, 4, 65534, 1)", x.sheet(1, 4, 65534, 1), 1);
        ice(x, 0, 0, 0, 1);
        Due.is("sheet(1, 1, 65536 + 42, 0)", x.sheet(1, 1, 65536 + 42, 0), 42);
        Due.is("sheet(1, 1, 256 + 42, 0)", x.sheet(1, 1, 256 + 42, 0), 99);
        Due.is("sheet(2, 1, 65536 + 42, 0)", x.sheet(2, 1, 65536 + 42, 0), 99);

        Edge.of(11, "n entries f, f + step, ..", "ints that wrap around");
        Due.is("sheet(2, 2, greatest, 1)", x.sheet(2, 2, Integer.MAX_VALUE, 1), 99);
        ice(x, 99, 0, 0, 0);
        Due.is("sheet(2, 2, least, -1)", x.sheet(2, 2, Integer.MIN_VALUE, -1), 99);
        ice(x, 0, 99, 0, 0);
        Due.is("sheet(2, 3, 3, least)", x.sheet(2, 3, 3, Integer.MIN_VALUE), 6);
        ice(x, 3, 0, 3, 0);
        Due.is("sheet(2, 4, 7, two to the power of 30)", x.sheet(2, 4, 7, 1 << 30), 106);
        ice(x, 7, 99, 0, 0);
        Due.is("sheet(0, 4, 7, 64)", x.sheet(0, 4, 7, 64), 78);
        ice(x, 7, 71, 0, 0);
    }

    private static void sheetMissing() {
        Edge.of(11, "or a missing one (3): those behind it have 0", "-3, and all 0, whatever n to 9, f and step are");
        for (int n : new int[] {0, 1, 9, -1, Integer.MIN_VALUE}) {
            LetByTheDegree x = Due.of("9,9/9,9", "");
            Due.is("sheet(3, " + n + ", 7, 7)", x.sheet(3, n, 7, 7), -3);
            ice(x, 0, 0, 0, 0);
        }
        LetByTheDegree none = new LetByTheDegree();
        Due.is("sheet(3, 0, 0, 0) of no ROOMS", none.sheet(3, 0, 0, 0), -3);
    }

    private static void sheetRefused() {
        Edge.of(11, "-2: n below 0 (of kinds 0 .. 2; nothing changes)", "of each kind");
        for (int kind = 0; kind < 3; kind++) {
            int k = kind;
            Edge.leaves(Edge::busy, "sheet(" + k + ", -1, 7, 7)", -2, o -> o.sheet(k, -1, 7, 7));
            Edge.leaves(Edge::busy, "sheet(" + k + ", least, 7, 7)", -2, o -> o.sheet(k, Integer.MIN_VALUE, 7, 7));
        }

        Edge.of(11, "NONE: another kind, n above 9 (these first).", "kinds -1 and 4, n 10, of a missing one, too");
        int[][] wrong = {{-1, 1}, {4, 1}, {4, -1}, {-1, -1}, {0, 10}, {1, 10}, {2, 10}, {3, 10}, {2, Integer.MAX_VALUE},
            {Integer.MIN_VALUE, 1}, {Integer.MAX_VALUE, 10}};
        for (int[] w : wrong) {
            Edge.leaves(Edge::busy, "sheet(" + w[0] + ", " + w[1] + ", 7, 7)", -1, o -> o.sheet(w[0], w[1], 7, 7));
        }
    }
}
