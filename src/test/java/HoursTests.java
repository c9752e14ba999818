/** Promises 12 to 18, and AN HOUR as the terms tell it. */
public final class HoursTests {
    public static void main(String[] args) {
        move();
        stove();
        hourWater();
        hourFalls();
        hourRents();
        hour();
        hourRule();
        hours();
        pay();
        winter();
        winterStops();
        winterWrong();
        undo();
        undoForgotten();
        Due.end();
    }

    private static void move() {
        Due.promise("12: move");
        LetByTheDegree x = Due.of("9,9/9,0", "a1:000000;b2:000000");
        Due.is("move(0, 4)", x.move(0, 4), 0);
        Due.is("person(0, 0)", x.person(0, 0), 4);
        Due.is("move(0, 1)", x.move(0, 1), 4);
        Due.is("count(10)", x.count(10), 2);
        x.hour();
        Due.is("move(1, 3) from OUT", x.move(1, 3), 9);
        Due.is("room(3, 4)", x.room(3, 4), 2);
        Due.leaves(x, "move(1, 3)", -2, () -> x.move(1, 3));
        int[][] wrong = {{-1, 0}, {2, 0}, {0, -1}, {0, 2}, {0, 5}, {0, 6}, {0, 9}, {5, 9}, {2, 2}, {Integer.MAX_VALUE, 0},
            {0, Integer.MIN_VALUE}};
        for (int[] w : wrong) {
            Due.leaves(x, "move(" + w[0] + ", " + w[1] + ")", -1, () -> x.move(w[0], w[1]));
        }
    }

    private static void stove() {
        Due.promise("13: stove");
        LetByTheDegree x = Due.of("9,9/9,9", "");
        x.water();
        Due.leaves(x, "stove(-1)", -2, () -> x.stove(-1));
        Due.is("stove(0)", x.stove(0), 9);
        Due.is("count(4)", x.count(4), 0);
        Due.is("room(0, 5)", x.room(0, 5), 1);
        Due.is("room(0, 2)", x.room(0, 2), 5);
        Due.leaves(x, "stove(0)", -2, () -> x.stove(0));
        Due.is("stove(4)", x.stove(4), 0);
        Due.is("room(0, 5)", x.room(0, 5), 0);
        for (int w : new int[] {-2, 2, 5, 6, 9, Integer.MAX_VALUE, Integer.MIN_VALUE}) {
            Due.leaves(x, "stove(" + w + ")", -1, () -> x.stove(w));
        }
        Due.is("stove(-1)", x.stove(-1), 4);
        Due.is("count(4)", x.count(4), -1);
        Due.is("count(10)", x.count(10), 3);
    }

    /** ICE and WATER of rooms one below the other. */
    private static void column(LetByTheDegree x, int... want) {
        for (int k = 0; k < want.length; k++) {
            Due.is("room(" + 3 * (k / 2) + ", " + k % 2 + ")", x.room(3 * (k / 2), k % 2), want[k]);
        }
    }

    private static void hourWater() {
        Due.promise("14: an hour's water");
        LetByTheDegree x = Due.thin("50/50/50", "a1:999999;a2:555555;a3:333333");
        Due.rule(x, "w+i-50");
        // All melt by what is ahead of the HOUR; what drips goes one storey an HOUR.
        Due.is("hour()", x.hour(), 17);
        column(x, 41, 9, 45, 5, 47, 3);
        Due.row(x, 0, 0, 0);
        Due.rule(x, "0");
        Due.is("hour()", x.hour(), 0);
        column(x, 41, 0, 45, 9, 47, 5);
        Due.row(x, 0, 0, 3);
        x.set(1, 4);
        x.hour();
        column(x, 41, 0, 45, 0, 51, 5);
        Due.row(x, 0, 0, 8);
        x.sheet(2, 3, 98, 0);
        x.set(1, 9);
        Due.rule(x, "7*(y=1)*(h=3)");
        x.hour();
        column(x, 98, 0, 98, 0, 98, 0);
        x.sheet(2, 3, 98, 0);
        Due.rule(x, "0");
        LetByTheDegree y = Due.of("99/98", "");
        y.set(1, 0);
        Due.rule(y, "5*(y=0)*(h=0)");
        y.hour();
        y.set(1, 9);
        Due.rule(y, "0");
        // Water 5 comes to ICE 98, of which only one more can be.
        y.hour();
        column(y, 94, 0, 99, 4);
        Due.asks(y, "water()", 197, () -> y.water(), 193, 4, 0);
        y.hour();
        column(y, 94, 0, 99, 0);
        Due.row(y, 0, 0, 4);
        // What has melted in an HOUR does not drip in it, and is ICE again in it.
        LetByTheDegree z = Due.of("9", "a1:888888");
        Due.is("hour()", z.hour(), 4);
        column(z, 7, 2);
        Due.row(z, 0, 0, 0);
        Due.is("hour()", z.hour(), 4);
        column(z, 5, 2);
        Due.row(z, 0, 0, 2);
        LetByTheDegree w = Due.of("2,5/9,9", "a1:999999");
        w.set(1, 9);
        Due.is("hour()", w.hour(), 2);
        Due.row(w, 0, 0, 0);
        Due.is("room(0, 0), as FROST mends it ahead of giving", w.room(0, 0), 2);
        Due.is("room(1, 0)", w.room(1, 0), 5);
    }

    private static void hourFalls() {
        Due.promise("14: an hour's falls");
        LetByTheDegree x = Due.thin("0,3/0,4/5,0", "a1:000000;a2:000000;b3:111111;b1:000000");
        x.stove(0);
        Due.is("hour()", x.hour(), 0);
        // 0 falls twice, to the room with ICE; 2 is OUT; a room with no ICE gives with nobody in it, too.
        Due.row(x, 1 | 8 | 128, 1 | 2 | 4, 0);
        Due.is("person(0, 0)", x.person(0, 0), 6);
        Due.is("person(0, 2)", x.person(0, 2), 2);
        Due.is("person(1, 0)", x.person(1, 0), 6);
        Due.is("person(1, 2)", x.person(1, 2), 1);
        Due.is("person(2, 0)", x.person(2, 0), -1);
        Due.is("person(2, 2)", x.person(2, 2), 1);
        Due.is("person(3, 0)", x.person(3, 0), 1);
        Due.is("count(4)", x.count(4), 6);
        Due.is("count(3)", x.count(3), 4);
        Due.is("hour()", x.hour(), 2);
        Due.row(x, 1 | 8 | 128, 0, 0);
        x.stove(7);
        x.hour();
        Due.is("count(4)", x.count(4), -1);
        LetByTheDegree y = Due.thin("0/0/0", "a1:900000");
        y.stove(0);
        y.hour();
        Due.row(y, 73, 1, 0);
        Due.is("person(0, 0)", y.person(0, 0), -1);
        Due.is("person(0, 2)", y.person(0, 2), 3);
        Due.is("count(4)", y.count(4), -1);
        LetByTheDegree z = Due.thin("4", "a1:999999");
        z.hour();
        Due.row(z, 1, 1, 0);
        Due.is("count(9)", z.count(9), 1);
    }

    private static void hourRents() {
        Due.promise("14: an hour's rents");
        LetByTheDegree x = Due.thin("0,9", "a1:123456;b1:345678");
        x.set(2, 3);
        x.hour();
        Due.is("person(0, 1), who falls in that HOUR", x.person(0, 1), 3);
        Due.is("person(1, 1)", x.person(1, 1), 9);
        x.hour();
        Due.is("person(0, 1), OUT", x.person(0, 1), 3);
        Due.is("person(1, 1)", x.person(1, 1), 21);
        x.set(2, 0);
        x.hour();
        Due.is("person(1, 1)", x.person(1, 1), 21);
        // The cycle has six HOURS.
        LetByTheDegree y = Due.of("99", "a1:123456");
        int due = 0;
        for (int k = 0; k < 14; k++) {
            y.hour();
            due += k % 6 + 1;
            Due.is("person(0, 1)", y.person(0, 1), due);
            Due.is("count(8)", y.count(8), k + 1);
        }
    }

    private static void hour() {
        Due.promise("14: hour");
        LetByTheDegree x = new LetByTheDegree();
        Due.is("hour() without a house", x.hour(), 0);
        Due.row(x, 0, 0, 0);
        Due.is("count(8)", x.count(8), 1);
        Due.is("count(10)", x.count(10), 1);
        LetByTheDegree y = Due.thin("3,7", "a1:888888;b1:999999");
        Due.is("hour()", y.hour(), 7);
        Due.row(y, 1, 1, 0);
        Due.is("hour()", y.hour(), 3);
        Due.row(y, 3, 2, 7);
        Due.is("hour()", y.hour(), 0);
        Due.row(y, 3, 0, 10);
    }

    private static void hourRule() {
        Due.promise("14: an hour's rule");
        LetByTheDegree x = Due.thin("50,50/50,50", "a1:100000;a1:200000;b2:300000");
        Due.rule(x, "n*9+y*4+h");
        Due.is("hour()", x.hour(), 18 + 0 + 4 + 13);
        Due.is("room(0, 0)", x.room(0, 0), 32);
        Due.is("room(1, 0)", x.room(1, 0), 50);
        Due.is("room(3, 0)", x.room(3, 0), 46);
        Due.is("room(4, 0)", x.room(4, 0), 37);
        Due.is("hour()", x.hour(), 19 + 1 + 5 + 14);
        Due.rule(x, "a+f");
        x.set(1, 1);
        // Of room 0 the 13 that are left; in room 3 18 have come from above to its own 5.
        Due.is("hour()", x.hour(), 13 + 2 + 24 + 15);
    }

    private static void hours() {
        Due.promise("15: hours");
        LetByTheDegree x = Due.thin("3,7", "a1:888888;b1:999999");
        Due.is("hours(0)", x.hours(0), 0);
        Due.row(x, 0, 0, 0);
        Due.is("count(10)", x.count(10), 0);
        Due.is("hours(1)", x.hours(1), 7);
        Due.row(x, 1, 1, 0);
        x.undo();
        Due.is("hours(2)", x.hours(2), 10);
        Due.row(x, 3, 3, 7);
        Due.is("count(10)", x.count(10), 1);
        Due.is("hours(60)", x.hours(60), 0);
        Due.row(x, 3, 0, 10);
        Due.is("count(8)", x.count(8), 62);
        Due.is("hours(0)", x.hours(0), 0);
        Due.row(x, 0, 0, 10);
        for (int n : new int[] {-1, 61, Integer.MAX_VALUE, Integer.MIN_VALUE}) {
            Due.leaves(x, "hours(" + n + ")", -1, () -> x.hours(n));
        }
        LetByTheDegree y = Due.thin("4,0,9", "a1:222222;b1:000000;c1:000000");
        Due.is("hours(3)", y.hours(3), 3);
        Due.row(y, 2, 2, 2);
    }

    private static void pay() {
        Due.promise("16: pay");
        LetByTheDegree x = Due.thin("0/0", "a1:999999;a1:000000");
        x.set(2, 9);
        x.hour();
        Due.is("person(0, 0)", x.person(0, 0), -1);
        Due.is("pay(0, 1) of one who is OUT", x.pay(0, 1), 80);
        Due.is("pay(0, 30)", x.pay(0, 30), 50);
        Due.leaves(x, "pay(0, 51)", -1, () -> x.pay(0, 51));
        Due.leaves(x, "pay(0, 0)", -1, () -> x.pay(0, 0));
        Due.leaves(x, "pay(0, -1)", -1, () -> x.pay(0, -1));
        Due.leaves(x, "pay(1, 1)", -1, () -> x.pay(1, 1));
        Due.leaves(x, "pay(2, 1)", -1, () -> x.pay(2, 1));
        Due.leaves(x, "pay(-1, 1)", -1, () -> x.pay(-1, 1));
        Due.is("pay(0, 50)", x.pay(0, 50), 0);
        Due.is("count(10)", x.count(10), 4);
        Due.is("undo()", x.undo(), 3);
        Due.is("person(0, 1)", x.person(0, 1), 50);
        LetByTheDegree y = Due.of("9", "a1:999999");
        y.set(2, 9);
        for (int k = 0; k < 3; k++) {
            y.hours(60);
        }
        Due.is("person(0, 1)", y.person(0, 1), 14580);
        Due.leaves(y, "pay(0, 10000)", -1, () -> y.pay(0, 10000));
        Due.is("pay(0, 9999)", y.pay(0, 9999), 4581);
    }

    private static void winter() {
        Due.promise("17: winter");
        LetByTheDegree x = Due.of("20,20/20,20", "a1:888888;b2:000000");
        Due.is("winter() of nothing", x.winter(), 0);
        Due.row(x, 0, 0, 0);
        Due.is("count(10)", x.count(10), 0);
        Due.is("winter()", Due.winter(x, "h;f0;h2;m0b2;sa1;h;s-;f9"), 8);
        // 4 an HOUR by 0, and 5/2 more in the last.
        Due.row(x, 0, 18, 0);
        Due.is("count(12)", x.count(12), 0);
        Due.is("count(8)", x.count(8), 4);
        Due.is("count(6)", x.count(6), 9);
        Due.is("count(4)", x.count(4), -1);
        Due.is("person(0, 0)", x.person(0, 0), 4);
        Due.is("person(0, 1)", x.person(0, 1), 32);
        Due.is("count(10)", x.count(10), 1);
        Due.is("room(0, 0)", x.room(0, 0), 8);
        Due.is("undo()", x.undo(), 0);
        Due.is("count(8)", x.count(8), 0);
        Due.is("count(6)", x.count(6), 2);
        Due.is("person(0, 1)", x.person(0, 1), 0);
        Due.is("winter()", Due.winter(x, "h9;h1;h"), 3);
        Due.is("count(8)", x.count(8), 11);
        Due.is("winter()", Due.winter(x, "m1a2;m1a1;m1b1;m1b2"), 4);
        Due.is("person(1, 0)", x.person(1, 0), 4);
        Due.is("winter()", Due.winter(x, "sb2"), 1);
        Due.is("count(4)", x.count(4), 4);
        LetByTheDegree y = Due.thin("1/1/0", "a1:900000;a2:000000");
        Due.is("winter()", Due.winter(y, "h2"), 1);
        Due.row(y, 0, 1, 1);
        Due.is("winter()", Due.winter(y, "m0a1;m1a1;h"), 3);
        Due.row(y, 0, 0, 2);
        LetByTheDegree z = new LetByTheDegree();
        Due.is("winter() without a house", Due.winter(z, "h3;f7"), 2);
        Due.row(z, 0, 0, 0);
        Due.is("count(8)", z.count(8), 3);
        Due.is("count(6)", z.count(6), 7);
        Due.is("winter() of 30 ACTS", Due.winter(z, "h;".repeat(29) + "h"), 30);
        Due.is("winter() of 60 signs", Due.winter(z, "h;".repeat(29) + "h9"), 30);
        Due.is("count(8)", z.count(8), 71);
    }

    private static void winterStops() {
        Due.promise("17: winter, an act that can't be");
        LetByTheDegree x = Due.of("20,20/20,20", "a1:888888;b2:000000");
        String[] texts = {"m0a1", "m2a1", "m9a1", "m0c1", "m0a3", "m0c3", "s-", "sc1", "sa3"};
        for (String s : texts) {
            Due.is("winter() of " + s, Due.winter(x, s), 0);
            Due.row(x, 1, 0, 0);
            Due.is("count(10)", x.count(10), 0);
            Due.is("count(12)", x.count(12), 0);
        }
        Due.is("winter()", Due.winter(x, "f5;h;m0c1;h9;f3"), 2);
        Due.row(x, 1, 4, 0);
        Due.is("count(8)", x.count(8), 1);
        Due.is("count(6)", x.count(6), 5);
        Due.is("count(10)", x.count(10), 1);
        Due.is("winter()", Due.winter(x, "sa1;sa1"), 1);
        Due.is("count(4)", x.count(4), 0);
        Due.is("winter()", Due.winter(x, "s-;s-"), 1);
        Due.is("winter()", Due.winter(x, "m0b1;m0b1;m0a1"), 1);
        Due.row(x, 1, 0, 0);
        Due.is("person(0, 0)", x.person(0, 0), 1);
        Due.is("undo()", x.undo(), 3);
        Due.is("undo()", x.undo(), 2);
        Due.is("undo()", x.undo(), 1);
        Due.is("undo()", x.undo(), 0);
        Due.is("count(8)", x.count(8), 0);
        Due.is("count(6)", x.count(6), 2);
        LetByTheDegree y = Due.thin("0/5", "a1:000000");
        Due.is("winter()", Due.winter(y, "h;m0a1;h2;m0a2"), 3);
        Due.row(y, 1, 0, 2);
    }

    private static void winterWrong() {
        Due.promise("17: winter, wrong texts");
        LetByTheDegree x = Due.of("20,20/20,20", "a1:888888;b2:000000");
        x.hour();
        String[] wrong = {"x", ";", "h;", "h0", "h12", "h;;h", "hh", "m", "ma1", "m0", "m01", "m0a", "m0a0", "m0a4", "m0d1",
            "m0a1x", "m0a11", "s", "sd1", "s1", "sa", "sa0", "sa4", "s--", "s-;", "f", "fx", "f10", "f5f", "h;h;q", "H",
            "h;".repeat(30), "h;".repeat(30) + "h", "h;".repeat(29) + "h99", "h;".repeat(29) + "m0a1",
            "h;".repeat(29) + "hh", "h;".repeat(29) + "s", "h9;".repeat(20) + "q"};
        int[] place = {0, 0, 2, 1, 2, 2, 1, 1, 1, 2, 2, 3, 3, 3, 2, 4, 4, 1, 1, 1, 2, 2, 2, 2, 3, 1, 1, 2, 2, 4, 0, 60, 60,
            60, 60, 59, 59, 60};
        for (int k = 0; k < wrong.length; k++) {
            String s = wrong[k];
            Due.leaves(x, "winter() of " + s, -1 - place[k], () -> Due.winter(x, s));
        }
        Due.type(x, "h;x");
        Due.is("winter()", x.winter(), -3);
        Due.is("count(12)", x.count(12), 0);
    }

    private static void undo() {
        Due.promise("18: undo");
        LetByTheDegree x = Due.thin("2,9/1,9", "a1:987654;b2:333333");
        String[] ahead = new String[7];
        ahead[0] = Due.world(x);
        x.move(1, 0);
        ahead[1] = Due.world(x);
        x.stove(1);
        ahead[2] = Due.world(x);
        x.hour();
        ahead[3] = Due.world(x);
        x.hours(2);
        ahead[4] = Due.world(x);
        x.pay(0, 4);
        ahead[5] = Due.world(x);
        Due.winter(x, "f3;h2;m0b1;s-");
        Due.is("count(10)", x.count(10), 6);
        // None of these is one to undo.
        x.hours(0);
        x.move(1, 9);
        x.stove(9);
        x.pay(0, 9999);
        Due.winter(x, "m0b1");
        Due.winter(x, "h;");
        Due.winter(x, "");
        Due.people(x, "");
        Due.people(x, "x");
        Due.house(x, "x");
        x.again(0);
        x.keep(0);
        Due.is("count(10)", x.count(10), 6);
        for (int k = 5; k >= 0; k--) {
            Due.is("undo()", x.undo(), k);
            if (!Due.world(x).equals(ahead[k])) {
                Due.wrong("undone: " + Due.world(x) + ", due is " + ahead[k]);
            }
        }
        Due.leaves(x, "undo()", -1, () -> x.undo());
        // All is as it was ahead, FROST and ICE that were set since, too; HEAT and PRICE are not undone.
        LetByTheDegree y = Due.thin("2,9/1,9", "a1:987654;b2:333333");
        y.hour();
        y.set(1, 8);
        y.set(0, 8);
        y.set(2, 8);
        y.sheet(2, 4, 44, 0);
        y.doing(0, 0, 1);
        y.undo();
        Due.is("count(6)", y.count(6), 0);
        Due.is("room(0, 0)", y.room(0, 0), 2);
        Due.is("count(5)", y.count(5), 8);
        Due.is("count(7)", y.count(7), 8);
        Due.is("person(0, 3)", y.person(0, 3), 1);
    }

    private static void undoForgotten() {
        Due.promise("18: undo, twelve of them");
        LetByTheDegree x = Due.of("9,9", "a1:000000");
        for (int k = 1; k <= 15; k++) {
            x.hour();
            Due.is("count(10)", x.count(10), Math.min(k, 12));
        }
        for (int k = 11; k >= 0; k--) {
            Due.is("undo()", x.undo(), k);
            Due.is("count(8)", x.count(8), 3 + k);
        }
        Due.is("undo()", x.undo(), -1);
        Due.is("count(8)", x.count(8), 3);
        x.hour();
        x.hour();
        x.keep(1);
        Due.is("undo()", x.undo(), 1);
        Due.is("again(1)", x.again(1), true);
        Due.is("count(8)", x.count(8), 5);
        Due.is("undo(), which again() forgets", x.undo(), -1);
        x.hour();
        Due.is("people()", Due.people(x, "a1:000000"), 1);
        Due.is("undo(), which people() forgets", x.undo(), -1);
        x.hour();
        Due.is("house()", Due.house(x, "1"), 1);
        Due.is("undo(), which house() forgets", x.undo(), -1);
    }
}
