/** What the terms say beside their edges, sentence by sentence. */
public final class SentenceTermsTests {
    public static void main(String[] args) {
        floors();
        pond();
        houseText();
        doings();
        peopleText();
        expressions();
        parts();
        drips();
        freezes();
        falls();
        sets();
        Due.end();
    }

    // ---- ROOMS, PEOPLE

    private static void floors() {
        Edge.of(0, "Each has a floor of ICE 0 .. 99, and WATER on it (at first 0).", "each of nine rooms for itself");
        LetByTheDegree x = Due.thin("10,20,30/40,50,60/70,80,90", "");
        Due.rule(x, "i/10");
        for (int r = 0; r < 9; r++) {
            Edge.room(x, r, 10 * (r + 1), 0, 0, r + 1);
        }
        Due.is("hour()", x.hour(), 45);
        for (int r = 0; r < 9; r++) {
            Edge.room(x, r, 9 * (r + 1), r + 1);
        }
    }

    private static void pond() {
        Edge.of(0, "THE POND (at first 0) is below the lowest.", "what melts in a storey comes to it through all below");
        for (int y = 0; y < 3; y++) {
            LetByTheDegree x = Due.thin("9,9/9,9/9,9", "");
            Due.rule(x, "4*(y=" + y + ")*(h=0)");
            for (int hour = 1; hour <= 5; hour++) {
                x.hour();
                Due.row(x, 0, 0, hour < 4 - y ? 0 : 8);
            }
        }
        LetByTheDegree one = Due.thin("9", "");
        Due.rule(one, "4*(h=0)");
        one.hour();
        Due.row(one, 0, 0, 0);
        one.hour();
        Due.row(one, 0, 0, 4);
    }

    private static void houseText() {
        Edge.of(0, "THE HOUSE is told by a text: storeys from the highest on with / between, of each the rooms with commas between, "
            + "each its ICE (1 or 2 digits); as many rooms in each as in the first.", "unlike rooms; other signs between");
        LetByTheDegree x = Due.of("12,3/45,67/8,90", "");
        Due.rule(x, "y");
        int[] ice = {12, 3, 0, 45, 67, 0, 8, 90};
        for (int r : new int[] {0, 1, 3, 4, 6, 7}) {
            Edge.room(x, r, ice[r], 0, 0, r / 3);
        }
        for (String s : new String[] {"1;2", "1 2", "1.2", "1:2", "1-2", "1|2", "1\\2"}) {
            Edge.reads(Edge::busy, "house()", s, -2, LetByTheDegree::house);
        }
        Edge.reads(Edge::busy, "house()", ",1", -1, LetByTheDegree::house);
        Edge.reads(Edge::busy, "house()", "/1", -1, LetByTheDegree::house);
        Edge.reads(Edge::busy, "house()", "1/,2", -3, LetByTheDegree::house);
        Edge.reads(Edge::busy, "house()", "1//2", -3, LetByTheDegree::house);
    }

    private static void doings() {
        Edge.of(0, "DOINGS: WARM 0 .. 9 in HOUR NOW % 6 of a cycle (6 digits)",
            "two whose HOURS are all unlike, for two cycles");
        LetByTheDegree x = Due.of("99,99", "a1:012345;b1:987654");
        for (int hour = 0; hour < 12; hour++) {
            Due.is("person(0, 3) in HOUR " + hour, x.person(0, 3), hour % 6);
            Due.is("person(1, 3) in HOUR " + hour, x.person(1, 3), 9 - hour % 6);
            Due.is("room(1, 2) in HOUR " + hour, x.room(1, 2), 9 - hour % 6);
            x.hour();
        }
    }

    private static void peopleText() {
        Edge.of(0, "LINES with ; between, each one more: a letter a .. c (x), a digit 1 .. 3 (y + 1) of a room that is "
            + "there, :, six digits.", 
            "one in each of nine rooms; three together; other signs between");
        for (int r = 0; r < 9; r++) {
            LetByTheDegree x = Due.of("1,2,3/4,5,6/7,8,9", "");
            String line = "" + (char) ('a' + r % 3) + (r / 3 + 1) + ":70000" + r;
            Due.is("people() of " + line, Due.people(x, line), 1);
            Edge.person(x, 0, r, 0, 0, 7, 7 + r);
            Due.is("people() of " + line + " once more", Due.people(x, line), 1);
            Edge.counts(x, 2, 2);
            Edge.person(x, 1, r, 0, 0, 7, 7 + r);
        }
        LetByTheDegree three = Due.of("1,2,3/4,5,6/7,8,9", "");
        Due.is("people() of three", Due.people(three, "c1:100000;a2:020000;b3:003000"), 3);
        Edge.person(three, 0, 2, 0, 0, 1, 1);
        Edge.person(three, 1, 3, 0, 0, 0, 2);
        Edge.person(three, 2, 7, 0, 0, 0, 3);
        for (String s : new String[] {",", "/", ":", " ", "a"}) {
            Edge.reads(Edge::busy, "people()", "a1:000000" + s + "a1:000000", -10, LetByTheDegree::people);
        }
        Edge.reads(Edge::busy, "people()", "a1;000000", -3, LetByTheDegree::people);
    }

    // ---- THE RULE

    private static void expressions() {
        LetByTheDegree x = Due.of("99/50", "a2:300000;a2:400000");
        Edge.of(0, "EXPRESSION: < > = bind least", "behind + - * / and - ahead of a thing, each by the other");
        Edge.melts(x, "2+3*-4+20>7*2-5", 1);
        Edge.melts(x, "2+3*-4+20<7*2-5", 0);
        Edge.melts(x, "2+3*-4+20=7*2-4", 1);
        Edge.melts(x, "-2*-3+1=7", 1);
        Edge.melts(x, "2*(3>2)+1", 3);
        Edge.melts(x, "2*3>2+1", 1);
        Edge.melts(x, "8-6/2*2+1", 3);

        Edge.of(0, "then - ahead of a thing (any many); things: a NUMBER of 1 to 3 digits, an EXPRESSION in ( ) (at most 4 in one another), "
            + "and, of a room: w WARMTH", "each kind of thing, of the room that is asked about; other signs");
        x.stove(3);
        String[] rules = {"7", "-(-7)", "w", "i", "a", "f", "y", "n", "h"};
        int[] highest = {7, 7, 0, 99, 0, 2, 0, 0, 0};
        int[] lowest = {7, 7, 12, 50, 0, 2, 1, 2, 0};
        for (int k = 0; k < rules.length; k++) {
            Due.is("rule() of " + rules[k], Due.rule(x, rules[k]), 0);
            Due.is("room(0, 3) by " + rules[k], x.room(0, 3), highest[k]);
            Due.is("room(3, 3) by " + rules[k], x.room(3, 3), lowest[k]);
        }
        for (String s : new String[] {"x", "W", "b", "p", "[1]", "{1}", "!w", "'"}) {
            Edge.reads(Edge::busy, "rule()", s, -1, LetByTheDegree::rule);
        }
        for (String s : new String[] {"w%2", "w^2", "w!=2", "w 2", "w&1", "2w", "wi", "w(1)", "(w)2"}) {
            Edge.reads(Edge::busy, "rule()", s, s.startsWith("(") ? -4 : -2, LetByTheDegree::rule);
        }
        for (String s : new String[] {"w<=2", "w>=2", "w==2", "w<>2"}) {
            Edge.reads(Edge::busy, "rule()", s, -3, LetByTheDegree::rule);
        }
    }

    // ---- AN HOUR

    private static void parts() {
        Edge.of(0, "AN HOUR: (1) of each room, by ICE and all as they are ahead: what MELTS; each in a room OWES PRICE "
            + "times its WARM more.", 
            "all five parts of it in a house of two storeys, by FROST 1");
        LetByTheDegree x = Due.of("6,1/5,0", "a1:600000;b1:140000;a2:020000;b2:300000");
        x.set(1, 1);
        x.set(2, 2);
        Due.rule(x, "w+a");
        x.stove(1);
        // 6 of 6 melt in room 0, 1 of 1 in room 1, nothing in room 3; room 4 has no ICE. FROST makes 1 of each WATER ICE.
        Due.is("hour()", x.hour(), 7);
        Due.row(x, 8 * 2, 8, 0);
        Edge.room(x, 0, 1, 5, 0, 1, 1, 0);
        Edge.room(x, 1, 1, 0, 9, 1, 2, 1);
        Edge.room(x, 3, 5, 0, 2, 2, 4, 0);
        Edge.room(x, 4, 0, 0, 0, 0, 0, 0);
        Edge.person(x, 0, 0, 12, 0);
        Edge.person(x, 1, 1, 2, 0);
        Edge.person(x, 2, 3, 0, 0);
        Edge.person(x, 3, -1, 6, 1);
        // 1 melts in room 0 (by its WATER), 1 in room 1, 2 in room 3, onto which 5 drip.
        Due.is("hour() again", x.hour(), 4);
        Due.row(x, 8 * 2, 0, 0);
        Edge.room(x, 0, 1, 0);
        Edge.room(x, 1, 1, 0);
        Edge.room(x, 3, 4, 6);
        Edge.person(x, 1, 1, 10, 0);
        Edge.person(x, 2, 3, 4, 0);
        Edge.person(x, 3, -1, 6, 1);
        Edge.counts(x, 8, 2);
    }

    private static void drips() {
        Edge.of(0, "(2) By rooms from the lowest storey up, in one by columns: its WATER drips away to the room below",
            "of nine rooms in one HOUR, each to the one below in its column");
        LetByTheDegree x = Due.thin("90,80,70/60,50,40/30,20,10", "");
        Due.rule(x, "i/10*(h=0)");
        x.hour();
        for (int hour = 1; hour <= 3; hour++) {
            x.hour();
            int pond = 0;
            for (int r = 0; r < 9; r++) {
                int from = r - 3 * hour;
                Due.is("room(" + r + ", 1) behind " + hour, x.room(r, 1), from < 0 ? 0 : 9 - from);
                pond += r >= 9 - 3 * hour ? 9 - r : 0;
            }
            Due.row(x, 0, 0, pond);
        }
    }

    private static void freezes() {
        Edge.of(0, "(3) By rooms in their numbers: as much of WATER as FROST tells (or all) is ICE again",
            "in each room as much, however much it is in the others");
        LetByTheDegree x = Due.of("50,50,50/50,50,50/50,50,50", "a1:100000;b1:200000;c1:300000;a3:400000;c3:500000");
        x.set(1, 3);
        Due.rule(x, "w");
        Due.is("hour()", x.hour(), 15);
        int[] water = {0, 0, 0, 0, 0, 0, 1, 0, 2};
        for (int r = 0; r < 9; r++) {
            Edge.room(x, r, 50 - water[r], water[r]);
        }
    }

    private static void falls() {
        Edge.of(0, "all PEOPLE that are in it, and THE STOVE, are in the room below",
            "from each room of two storeys straight down");
        for (int r = 0; r < 6; r++) {
            LetByTheDegree x = Due.thin("9,9,9/9,9,9/9,9,9", Edge.lines(5, "000000"));
            Due.rule(x, "i*(n=2)");
            int[] rooms = {8, r, 7, 6, r};
            for (int p = 0; p < 5; p++) {
                x.move(p, rooms[p]);
            }
            x.stove(r);
            Due.is("hour() of " + r, x.hour(), 9);
            Due.row(x, 1 << r, 2 | 16, 0);
            Edge.person(x, 1, r + 3, 0, 1);
            Edge.person(x, 4, r + 3, 0, 1);
            Edge.person(x, 0, 8, 0, 0);
            Edge.counts(x, 3, 0, r + 3);
        }

        Edge.of(0, "each of PEOPLE FELL once more", "once for each floor, again and again; nobody else");
        LetByTheDegree y = Due.thin("0,9", "a1:000000;b1:000000");
        for (int k = 1; k <= 4; k++) {
            y.hour();
            Edge.person(y, 0, -1, 0, k);
            Edge.person(y, 1, 1, 0, 0);
            y.move(0, 0);
        }
    }

    // ---- the ROW

    private static void sets() {
        Edge.of(0, "Sets are bits.", "1, 2, 4, 8, 16 for each of PEOPLE, 1 .. 256 for each room");
        for (int p = 0; p < 5; p++) {
            LetByTheDegree x = Due.thin("9,0", Edge.lines(5, "000000"));
            x.move(p, 1);
            Due.is("room(1, 4) with " + p, x.room(1, 4), 1 << p);
            Due.is("room(0, 4) without " + p, x.room(0, 4), 31 - (1 << p));
            x.hour();
            Due.row(x, 2, 1 << p, 0);
            Edge.counts(x, 3, 1 << p);
        }
        for (int r = 0; r < 9; r++) {
            LetByTheDegree x = Due.thin("9,9,9/9,9,9/9,9,9", "a1:900000");
            Due.rule(x, "w");
            x.move(0, r);
            x.hour();
            Due.is("row(0) of room " + r, x.row(0), 1 << r);
            Edge.counts(x, 9, 1 << r);
        }
    }
}
