/** Promises 34 to 41: water, thaws, what is kept, what is told. */
public final class WaterTests {
    public static void main(String[] args) {
        water();
        thaw();
        thawRule();
        leave();
        season();
        seasonPeople();
        keep();
        again();
        count();
        row();
        Due.end();
    }

    private static void water() {
        Due.promise("34: water");
        LetByTheDegree n = new LetByTheDegree();
        Due.asks(n, "water()", 0, () -> n.water(), 0, 0, 0);
        LetByTheDegree x = Due.thin("10,4/6,8", "a1:888888;b2:666666");
        Due.asks(x, "water()", 28, () -> x.water(), 28, 0, 0);
        x.hours(3);
        // 4, 4, 2 melt in room 0, of which the first is in THE POND; 3, 3, 2 in room 4, of which two are.
        Due.asks(x, "water()", 28, () -> x.water(), 10, 8, 10);
    }

    private static void thaw() {
        Due.promise("35: thaw");
        LetByTheDegree x = Due.of("5", "a1:888888");
        // 4 melt an HOUR, of which 2 are ICE again without a thaw: 5, 3, then 2, and so on; one thaw leaves 1.
        Due.asks(x, "thaw(1, 5)", 0, () -> x.thaw(1, 5), 1, 1);
        Due.asks(x, "thaw(2, 5)", 0, () -> x.thaw(2, 5), 1, 2);
        Due.asks(x, "thaw(2, 3)", 0, () -> x.thaw(2, 3), 7, 10);
        Due.asks(x, "thaw(3, 3)", 0, () -> x.thaw(3, 3), 49, 100);
        Due.asks(x, "thaw(8, 3)", 0, () -> x.thaw(8, 3), 823543, 10000000);
        Due.asks(x, "thaw(8, 0)", 0, () -> x.thaw(8, 0), 1, 1);
        Due.asks(x, "thaw(1, 10)", 0, () -> x.thaw(1, 10), 1, 1);
        Due.asks(x, "thaw(2, 10)", 0, () -> x.thaw(2, 10), 0, 1);
        Due.asks(x, "thaw(2, 4)", 0, () -> x.thaw(2, 4), 3, 5);
        x.set(1, 0);
        Due.asks(x, "thaw(1, 0)", 0, () -> x.thaw(1, 0), 1, 1);
        Due.asks(x, "thaw(2, 0)", 0, () -> x.thaw(2, 0), 0, 1);
        int[][] wrong = {{0, 5}, {9, 5}, {-1, 5}, {1, -1}, {1, 11}, {Integer.MAX_VALUE, 5}, {1, Integer.MIN_VALUE}};
        for (int[] w : wrong) {
            Due.leaves(x, "thaw(" + w[0] + ", " + w[1] + ")", -1, () -> x.thaw(w[0], w[1]));
        }
        LetByTheDegree n = new LetByTheDegree();
        Due.asks(n, "thaw(8, 5)", 0, () -> n.thaw(8, 5), 1, 1);
    }

    private static void thawRule() {
        Due.promise("35: thaw, by the rule and the water");
        // f is FROST of the HOUR: only by a thaw in the second HOUR all melts.
        LetByTheDegree x = Due.of("3", "");
        Due.rule(x, "9*(f=0)*(h=1)");
        Due.asks(x, "thaw(3, 2)", 0, () -> x.thaw(3, 2), 4, 5);
        // All melts in each HOUR: only FROST makes a floor of it again.
        LetByTheDegree y = Due.of("4", "a1:888888");
        Due.asks(y, "thaw(1, 1)", 0, () -> y.thaw(1, 1), 9, 10);
        Due.asks(y, "thaw(2, 1)", 0, () -> y.thaw(2, 1), 81, 100);
        // A floor that is not there can't give.
        LetByTheDegree z = Due.of("0,9", "");
        Due.asks(z, "thaw(8, 10)", 0, () -> z.thaw(8, 10), 1, 1);
    }

    private static void leave() {
        Due.promise("36: leave");
        LetByTheDegree x = Due.of("5", "a1:888888");
        x.water();
        // 1, then 1/2, 1/4 ..
        int[][] want = {{5, 100, 1}, {5, 51, 1}, {5, 50, 2}, {5, 26, 2}, {5, 25, 3}, {5, 13, 3}, {5, 12, 4}, {5, 7, 4},
            {5, 6, 5}, {5, 1, 7}, {5, 0, 8}, {0, 100, 8}, {10, 0, 8}, {10, 1, 1}, {10, 100, 1}, {3, 70, 2}, {3, 71, 1},
            {3, 49, 3}, {3, 50, 2}, {1, 48, 7}, {1, 47, 8}};
        for (int[] w : want) {
            Due.is("leave(" + w[0] + ", " + w[1] + ")", x.leave(w[0], w[1]), w[2]);
        }
        int[][] wrong = {{-1, 5}, {11, 5}, {5, -1}, {5, 101}, {Integer.MIN_VALUE, 5}, {5, Integer.MAX_VALUE}};
        for (int[] w : wrong) {
            Due.leaves(x, "leave(" + w[0] + ", " + w[1] + ")", -1, () -> x.leave(w[0], w[1]));
        }
        x.sheet(2, 1, 2, 0);
        Due.leaves(x, "leave(1, 91)", 0, () -> x.leave(1, 91));
        Due.leaves(x, "leave(1, 90)", 1, () -> x.leave(1, 90));
        LetByTheDegree n = new LetByTheDegree();
        Due.leaves(n, "leave(5, 100)", 8, () -> n.leave(5, 100));
    }

    private static void season() {
        Due.promise("37: season");
        LetByTheDegree n = new LetByTheDegree();
        Due.asks(n, "season(1, 60)", 0, () -> n.season(1, 60), 0, -1, 0);
        // The first DRAW by seed 1 is by 1103527590: 16838, of 10 8.
        LetByTheDegree x = Due.thin("50", "");
        Due.rule(x, "f");
        Due.asks(x, "season(1, 1)", 0, () -> x.season(1, 1), 8, -1, 0);
        Due.rule(x, "10*(h=0)+f*(h=1)");
        x.sheet(2, 1, 10, 0);
        Due.asks(x, "season(1, 1), whose FROST makes ICE of 8", 0, () -> x.season(1, 1), 10, -1, 0);
        x.sheet(2, 1, 99, 0);
        // The third DRAW is by 662824084: 10113, of 10 3.
        Due.asks(x, "season(1, 2)", 0, () -> x.season(1, 2), 13, -1, 0);
        for (int k : new int[] {0, -1, 61, Integer.MAX_VALUE}) {
            Due.leaves(x, "season(1, " + k + ")", -1, () -> x.season(1, k));
        }
        LetByTheDegree y = Due.thin("9,0/0,0", "b1:000000;b1:000000");
        // Both fall twice, and then are OUT; of rooms that give in as many HOURS the first.
        Due.asks(y, "season(7, 5)", 4, () -> y.season(7, 5), 0, 1, 5);
        Due.asks(y, "season(-7, 60)", 4, () -> y.season(-7, 60), 0, 1, 60);
        // By a DRAW of FROST 0 the floor of room 0 gives, once.
        int found = 0;
        for (int seed = 0; seed < 100; seed++) {
            LetByTheDegree z = Due.thin("9,9", "a1:000000");
            Due.rule(z, "9*(f=0)*(y+n>0)");
            int r = seed * 1103515245 + 12345;
            int gave = (r >>> 16) % 10 == 0 ? 1 : 0;
            int s = seed;
            Due.asks(z, "season(" + seed + ", 1)", gave, () -> z.season(s, 1), 9 * gave, gave - 1, gave);
            found += gave;
        }
        Due.is("some give", found > 0, true);
    }

    private static void seasonPeople() {
        Due.promise("37: season, who is warm");
        LetByTheDegree x = Due.of("90", "a1:010203");
        Due.rule(x, "w");
        // By the document's DRAWS alone, told once more.
        long all = 0;
        for (int seed = -40; seed < 40; seed++) {
            int melted = 0;
            int r = seed;
            for (int k = 0; k < 6; k++) {
                r = r * 1103515245 + 12345;
                r = r * 1103515245 + 12345;
                melted += (r >>> 16) % 4 == 0 ? 9 : new int[] {0, 1, 0, 2, 0, 3}[k];
            }
            int want = melted;
            int s = seed;
            Due.asks(x, "season(" + seed + ", 6)", 0, () -> x.season(s, 6), want, -1, 0);
            all += melted;
        }
        Due.is("some are warm, some are not", all > 80 * 6 && all < 80 * 54, true);
        LetByTheDegree y = Due.of("99,99,99", "a1:000000;b1:000000;c1:000000");
        Due.rule(y, "w*(h=0)");
        int[] found = new int[4];
        for (int seed = 0; seed < 60; seed++) {
            int r = (seed * 1103515245 + 12345) * 1103515245 + 12345;
            int who = (r >>> 16) % 6;
            int s = seed;
            Due.asks(y, "season(" + seed + ", 1)", 0, () -> y.season(s, 1), who < 3 ? 9 : 0, -1, 0);
            found[Math.min(who, 3)]++;
        }
        Due.is("all come", found[0] > 0 && found[1] > 0 && found[2] > 0 && found[3] > 0, true);
    }

    private static void keep() {
        Due.promise("38: keep");
        LetByTheDegree x = Due.thin("9,3/4,5", "a1:666666;b2:222222");
        x.stove(1);
        x.set(2, 3);
        x.hours(2);
        Due.leaves(x, "keep(-1)", 0, () -> x.keep(-1) ? 1 : 0);
        Due.leaves(x, "keep(2)", 0, () -> x.keep(2) ? 1 : 0);
        Due.leaves(x, "keep(0)", 1, () -> x.keep(0) ? 1 : 0);
        String first = Due.world(x);
        x.pay(0, 2);
        x.move(1, 0);
        x.set(1, 9);
        x.hours(3);
        Due.leaves(x, "keep(1)", 1, () -> x.keep(1) ? 1 : 0);
        String second = Due.world(x);
        x.stove(-1);
        x.sheet(2, 4, 77, 1);
        x.hour();
        for (int k = 0; k < 2; k++) {
            Due.is("again(0)", x.again(0), true);
            Due.is("as it was kept under 0", first.equals(Due.world(x)), true);
            Due.is("again(1)", x.again(1), true);
            Due.is("as it was kept under 1", second.equals(Due.world(x)), true);
        }
        Due.is("keep(0) anew", x.keep(0), true);
        x.hour();
        Due.is("again(0)", x.again(0), true);
        Due.is("as it was kept under 0 anew", second.equals(Due.world(x)), true);
        LetByTheDegree n = new LetByTheDegree();
        Due.is("keep(0)", n.keep(0), true);
        n.hours(5);
        Due.is("again(0)", n.again(0), true);
        Due.is("count(8)", n.count(8), 0);
    }

    private static void again() {
        Due.promise("39: again");
        LetByTheDegree x = Due.of("9", "a1:444444");
        x.hour();
        Due.leaves(x, "again(0)", 0, () -> x.again(0) ? 1 : 0);
        x.keep(0);
        Due.leaves(x, "again(1)", 0, () -> x.again(1) ? 1 : 0);
        Due.leaves(x, "again(-1)", 0, () -> x.again(-1) ? 1 : 0);
        Due.leaves(x, "again(2)", 0, () -> x.again(2) ? 1 : 0);
        x.set(0, 9);
        x.set(2, 9);
        x.doing(0, 0, 9);
        x.hour();
        String row = Due.rowOf(x);
        Due.is("again(0)", x.again(0), true);
        Due.is("count(5), which is not kept", x.count(5), 9);
        Due.is("count(7), which is not kept", x.count(7), 9);
        Due.is("person(0, 4), which is not kept", x.person(0, 4), 29);
        Due.is("count(8)", x.count(8), 1);
        Due.is("count(10)", x.count(10), 0);
        Due.is("the row stays", row.equals(Due.rowOf(x)), true);
        Due.people(x, "");
        Due.people(x, "a1:44444");
        Due.is("again(0), as nobody came", x.again(0), true);
        x.hour();
        Due.people(x, "a1:111111");
        Due.leaves(x, "again(0), as one came", 0, () -> x.again(0) ? 1 : 0);
        x.keep(1);
        x.hour();
        Due.is("again(1)", x.again(1), true);
        Due.leaves(x, "again(0)", 0, () -> x.again(0) ? 1 : 0);
        Due.house(x, "1");
        Due.leaves(x, "again(1), by a house anew", 0, () -> x.again(1) ? 1 : 0);
        Due.house(x, "x");
        x.keep(1);
        Due.house(x, "x");
        Due.is("again(1), by no house anew", x.again(1), true);
    }

    private static void count() {
        Due.promise("40: count");
        LetByTheDegree x = Due.thin("0,7,3/9,0,4", "a1:100000;b1:200000;b2:300000;c1:400000");
        x.stove(5);
        x.set(0, 6);
        x.set(2, 8);
        x.hour();
        Due.type(x, "abc");
        long[] want = {3, 2, 4, 4, 5, 6, 0, 8, 1, 1 | 16, 2, 3, 3};
        for (int what = 0; what < want.length; what++) {
            Due.is("count(" + what + ")", x.count(what), want[what]);
        }
        for (int what : new int[] {-1, 13, Integer.MAX_VALUE, Integer.MIN_VALUE}) {
            Due.leaves(x, "count(" + what + ")", -100, () -> x.count(what));
        }
    }

    private static void row() {
        Due.promise("41: row");
        LetByTheDegree x = Due.thin("9,9/9,9", "a1:100000;b1:200000;b2:300000;a1:400000;a1:000000");
        x.charges(1);
        for (int i = 0; i < 5; i++) {
            Due.is("row(" + i + ")", x.row(i), new long[] {1, 2, 3, 4, 0}[i]);
        }
        for (int i : new int[] {-1, 5, 6, 9, 10, Integer.MAX_VALUE, Integer.MIN_VALUE}) {
            Due.throwsNone("row(" + i + ")", () -> x.row(i));
        }
        // Calls that tell no row leave it.
        x.coldest(1);
        x.leave(1, 1);
        x.move(0, 3);
        x.stove(0);
        x.pay(0, 1);
        x.undo();
        x.set(1, 1);
        x.doing(0, 0, 1);
        x.sheet(2, 1, 1, 1);
        x.keep(0);
        x.again(0);
        x.rule();
        x.people();
        Due.house(x, "1,2");
        Due.row(x, 1, 2, 3, 4, 0);
        x.lodge(1);
        Due.row(x);
        Due.throwsNone("row(0)", () -> x.row(0));
    }
}
