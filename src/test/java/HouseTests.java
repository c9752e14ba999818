/** Promises 1 to 11: the house, the people. */
public final class HouseTests {
    public static void main(String[] args) {
        newObject();
        sign();
        end();
        house();
        houseAnew();
        people();
        peopleWrong();
        rule();
        ruleWrong();
        room();
        person();
        set();
        doing();
        sheet();
        Due.end();
    }

    private static void newObject() {
        Due.promise("1: a new object");
        LetByTheDegree x = new LetByTheDegree();
        long[] want = {0, 0, 0, 0, -1, 5, 2, 1, 0, 0, 0, 0, 0};
        for (int what = 0; what < want.length; what++) {
            Due.is("count(" + what + ")", x.count(what), want[what]);
        }
        Due.is("NONE", LetByTheDegree.NONE, -1);
        Due.throwsNone("row(0)", () -> x.row(0));
        Due.throwsNone("room(0, 0)", () -> x.room(0, 0));
        Due.throwsNone("person(0, 0)", () -> x.person(0, 0));
        Due.leaves(x, "undo()", -1, () -> x.undo());
        Due.leaves(x, "move(0, 0)", -1, () -> x.move(0, 0));
        Due.leaves(x, "sheet(0, 3, 4, 5)", 0, () -> x.sheet(0, 3, 4, 5));
        Due.leaves(x, "sheet(3, 0, 0, 0)", -3, () -> x.sheet(3, 0, 0, 0));
        Due.is("hours(7)", x.hours(7), 0);
        Due.row(x, 0, 0, 0);
        Due.is("count(8)", x.count(8), 7);
        Due.is("again(0)", x.again(0), false);
    }

    private static void sign() {
        Due.promise("2: sign");
        LetByTheDegree x = new LetByTheDegree();
        Due.is("sign()", x.sign('1' << 24 | '2' << 16 | ',' << 8 | '3'), 4);
        Due.is("house()", x.house(), 2);
        Due.is("room(0, 0)", x.room(0, 0), 12);
        Due.is("room(1, 0)", x.room(1, 0), 3);
        for (int k = 1; k <= 20; k++) {
            Due.is("sign(-1)", x.sign(-1), 4 * k);
        }
        Due.leaves(x, "sign(0)", -1, () -> x.sign(0));
        x.end(77);
        Due.leaves(x, "sign(0) behind 77", -1, () -> x.sign(0));
        x.end(76);
        Due.is("sign(0) behind 76", x.sign(0), 80);
        // A sign with its highest bit is no digit, whatever its other bits are.
        x.end(0);
        Due.is("sign()", x.sign((128 + '1') << 24), 4);
        x.end(1);
        Due.is("house()", x.house(), -1);
    }

    private static void end() {
        Due.promise("3: end");
        LetByTheDegree x = new LetByTheDegree();
        Due.is("end(0)", x.end(0), true);
        Due.is("end(1)", x.end(1), false);
        Due.type(x, "123,");
        Due.leaves(x, "end(5)", 0, () -> x.end(5) ? 1 : 0);
        Due.leaves(x, "end(-1)", 0, () -> x.end(-1) ? 1 : 0);
        Due.leaves(x, "end(4)", 1, () -> x.end(4) ? 1 : 0);
        Due.is("end(2)", x.end(2), true);
        Due.is("count(12)", x.count(12), 2);
        Due.is("end(3)", x.end(3), false);
        Due.is("house()", x.house(), 1);
        Due.is("room(0, 0)", x.room(0, 0), 12);
    }

    private static void house() {
        Due.promise("4: house, texts");
        LetByTheDegree x = new LetByTheDegree();
        String[] wrong = {"", "x", ",1", "1,", "1/", "1,,2", "1 ", "100", "1,2,3,4", "1,2,3,", "1,2/3", "1,2/3/4,5", "1/2,3",
            "1,2/3,4,5", "1/2/3/4", "1/2/3/", "1,2/3,4/5", "1,2,3/4,5", "99,99,99/99,99,99/99,99,99,",
            "99,99,99/99,99,99/99,99,99/", "1\u00002", "1;2"};
        int[] place = {0, 0, 0, 2, 2, 2, 1, 2, 5, 5, 5, 5, 3, 7, 5, 5, 9, 9, 26, 26, 1, 1};
        for (int k = 0; k < wrong.length; k++) {
            Due.is("house() of " + wrong[k], Due.house(x, wrong[k]), -1 - place[k]);
            Due.is("count(12)", x.count(12), 0);
            Due.is("count(0)", x.count(0), 0);
        }
        String[] told = {"0", "99", "05", "1,2", "1,2,3", "1/2", "1/2/3", "1,2/3,4", "1,2/3,4/5,6", "1,2,3/4,5,6/7,8,9"};
        int[] columns = {1, 1, 1, 2, 3, 1, 1, 2, 2, 3};
        int[] storeys = {1, 1, 1, 1, 1, 2, 3, 2, 3, 3};
        for (int k = 0; k < told.length; k++) {
            Due.is("house() of " + told[k], Due.house(x, told[k]), columns[k] * storeys[k]);
            Due.is("count(0)", x.count(0), columns[k]);
            Due.is("count(1)", x.count(1), storeys[k]);
            Due.is("count(12)", x.count(12), 0);
        }
        for (int r = 0; r < 9; r++) {
            Due.is("room(" + r + ", 0)", x.room(r, 0), r + 1);
            Due.is("room(" + r + ", 1)", x.room(r, 1), 0);
        }
        Due.is("house() of 99/05", Due.house(x, "99/05"), 2);
        Due.is("room(0, 0)", x.room(0, 0), 99);
        Due.is("room(3, 0)", x.room(3, 0), 5);
        Due.throwsNone("room(1, 0)", () -> x.room(1, 0));
    }

    private static void houseAnew() {
        Due.promise("4: house, anew");
        LetByTheDegree x = Due.thin("3/0", "a1:666666");
        x.stove(3);
        x.set(0, 7);
        x.set(2, 3);
        Due.rule(x, "w");
        x.keep(0);
        x.hours(3);
        Due.row(x, 9, 1, 3);
        Due.leaves(x, "house() of 1,", -3, () -> Due.house(x, "1,"));
        Due.is("house()", Due.house(x, "7,8"), 2);
        Due.row(x, 9, 1, 3);
        long[] want = {2, 1, 0, 0, -1, 7, 0, 3, 0, 0, 0, 3, 0};
        for (int what = 0; what < want.length; what++) {
            Due.is("count(" + what + ")", x.count(what), want[what]);
        }
        Due.is("again(0)", x.again(0), false);
        Due.is("undo()", x.undo(), -1);
        Due.asks(x, "water()", 15, () -> x.water(), 15, 0, 0);
        Due.is("people()", Due.people(x, "b1:400000"), 1);
        Due.is("person(0, 1)", x.person(0, 1), 0);
        Due.is("person(0, 2)", x.person(0, 2), 0);
        Due.is("room(1, 3), by the rule as it was", x.room(1, 3), 4);
        LetByTheDegree y = Due.thin("9,9/9,9", "");
        y.stove(1);
        y.keep(0);
        y.keep(1);
        y.hours(2);
        Due.is("room(1, 1)", y.room(1, 1), 2);
        Due.is("house()", Due.house(y, "4,5/6,7"), 4);
        Due.is("count(4)", y.count(4), -1);
        Due.is("room(1, 1)", y.room(1, 1), 0);
        Due.is("room(4, 1)", y.room(4, 1), 0);
        Due.asks(y, "water()", 22, () -> y.water(), 22, 0, 0);
        Due.is("again(0), with nobody then and now", y.again(0), false);
        Due.is("again(1), with nobody then and now", y.again(1), false);
    }

    private static void people() {
        Due.promise("5: people");
        LetByTheDegree x = new LetByTheDegree();
        Due.is("people() without a house", Due.people(x, "a1:000000"), -1);
        Due.is("people() of nothing", x.people(), 0);
        Due.house(x, "5,5/5,5/5,5");
        Due.is("people()", Due.people(x, "a1:012345;b3:987654"), 2);
        Due.is("count(12)", x.count(12), 0);
        Due.is("count(2)", x.count(2), 2);
        Due.is("person(0, 0)", x.person(0, 0), 0);
        Due.is("person(1, 0)", x.person(1, 0), 7);
        Due.is("person(1, 4)", x.person(1, 4), 39);
        for (int k = 0; k < 6; k++) {
            Due.is("doing(0, " + k + ", 0)", x.doing(0, k, 0), k);
            Due.is("doing(1, " + k + ", 0)", x.doing(1, k, 0), 9 - k);
        }
        x.hour();
        Due.leaves(x, "people() of nothing", 0, () -> x.people());
        Due.is("count(10)", x.count(10), 1);
        Due.is("people()", Due.people(x, "a2:111111"), 1);
        Due.is("count(10)", x.count(10), 0);
        Due.is("person(2, 0)", x.person(2, 0), 3);
        Due.is("person(2, 1)", x.person(2, 1), 0);
        Due.is("people() of three", Due.people(x, "a1:000000;a1:000000;a1:000000"), -21);
        Due.is("count(2)", x.count(2), 3);
        Due.is("people()", Due.people(x, "a1:000000;b1:000000"), 2);
        Due.is("count(2)", x.count(2), 5);
        Due.is("people() of one more", Due.people(x, "a1:000000"), -1);
        Due.is("people() of nothing", x.people(), 0);
        LetByTheDegree y = Due.of("5", "a1:111111;a1:111111;a1:111111;a1:111111;a1:111111");
        Due.is("count(2)", y.count(2), 5);
    }

    private static void peopleWrong() {
        Due.promise("5: people, wrong texts");
        LetByTheDegree x = Due.of("5,5/5,5", "");
        x.hour();
        x.keep(0);
        String line = "a1:123456";
        String[] wrong = {"x", "c1", "A1:000000", "a", "a3", "a0", "a1", "a1;", "a1:", "a1:12345", "a1:12345x", line + "7",
            line + ";", line + ",", line + ";c", line + ";b2:00000", line + ";" + line + ";;", line + ";" + line + ";"
            + line + ";" + line + ";" + line + ";", line + ";" + line + ";" + line + ";" + line + ";" + line + ";" + line,
            line + ";" + line + ";" + line + ";" + line + ";" + line + "0"};
        int[] place = {0, 0, 0, 1, 1, 1, 2, 2, 3, 8, 8, 9, 10, 9, 10, 18, 20, 50, 50, 49};
        for (int k = 0; k < wrong.length; k++) {
            String s = wrong[k];
            Due.leaves(x, "people() of " + s, -1 - place[k], () -> Due.people(x, s));
        }
        Due.is("again(0), as nobody came", x.again(0), true);
        Due.type(x, "a1:00000");
        Due.is("people()", x.people(), -9);
        Due.is("count(12)", x.count(12), 0);
    }

    /** What melts in room 3 (ICE 50, WATER as told) by a rule. */
    private static void melts(LetByTheDegree x, String rule, int want) {
        Due.is("rule() of " + rule, Due.rule(x, rule), 0);
        Due.is("room(3, 3) by " + rule, x.room(3, 3), want);
    }

    private static void rule() {
        Due.promise("6: rule");
        LetByTheDegree x = Due.of("9/50", "a2:345678;a2:111111");
        x.set(1, 3);
        x.stove(3);
        x.hour();
        // w/2 of 3 + 1 + 5 melted 4, of which FROST made 3 ICE again: ICE 49, WATER 1, NOW 1.
        Due.is("room(3, 0)", x.room(3, 0), 49);
        Due.is("room(3, 1)", x.room(3, 1), 1);
        melts(x, "w", 10);
        melts(x, "i", 49);
        melts(x, "i-9", 40);
        melts(x, "a", 1);
        melts(x, "f", 3);
        melts(x, "y", 1);
        melts(x, "n", 2);
        melts(x, "h", 1);
        melts(x, "", 5);
        melts(x, "0-w", 0);
        melts(x, "-w", 0);
        melts(x, "w-99", 0);
        melts(x, "999", 49);
        melts(x, "007", 7);
        melts(x, "20-3-4", 13);
        melts(x, "20-3+4", 21);
        melts(x, "40/3*2", 26);
        melts(x, "2*40/3", 26);
        melts(x, "2+3*4", 14);
        melts(x, "(2+3)*4", 20);
        melts(x, "9/0+5", 5);
        melts(x, "9-7/2", 6);
        melts(x, "9+(0-7)/2", 6);
        melts(x, "9+-7/2", 6);
        melts(x, "--7", 7);
        melts(x, "---7+8", 1);
        melts(x, "9--7", 16);
        melts(x, "-2*-3", 6);
        melts(x, "3<4", 1);
        melts(x, "4<4", 0);
        melts(x, "4>3", 1);
        melts(x, "4>4", 0);
        melts(x, "4=4", 1);
        melts(x, "4=5", 0);
        melts(x, "2<1+3", 1);
        melts(x, "1+3<2", 0);
        melts(x, "2+(1<3)*9", 11);
        melts(x, "(1<2)<2", 1);
        melts(x, "5+(4<4)", 5);
        melts(x, "5+(4>4)", 5);
        melts(x, "5+(4=5)", 5);
        melts(x, "1<(2<1)", 0);
        melts(x, "((((7))))", 7);
        melts(x, "(1)+((((2))))", 3);
        melts(x, "999*999*999*999/999/999/999+5", 5);
        // As an int 999 * 999 * 999 * 5 is 690,047,699; in full, 4,985,014,995, it would melt 49.
        melts(x, "999*999*999*5/100/999/999", 6);
        melts(x, "w+".repeat(17) + "w-160", 20);
        Due.is("count(12)", x.count(12), 0);
    }

    private static void ruleWrong() {
        Due.promise("6: rule, wrong texts");
        LetByTheDegree x = Due.of("50", "a1:999999");
        x.water();
        Due.rule(x, "w-2");
        String forty = "w+".repeat(19) + "ww";
        String[] wrong = {"z", "W", "+w", "*w", ")", "w+", "w-", "w*", "w<", "w<i<a", "w=i=a", "w>i<a", "w<<i", "(w", "(w+",
            "()", "(w))", "((((w", "(((((w", "w(i)", "(w)i", "1000", "12w", "w1", "1 ", "-", "w--", "(1<2<3)", forty,
            forty.substring(0, 39) + "+", forty.substring(0, 38) + "999", "w" + "+i".repeat(19) + "+", "1" + "+1".repeat(30),
            "-".repeat(40), "-".repeat(60), "((((w+1)+1)+1)+1)" + "+(((((1)))))", "0.5", "\u0001"};
        int[] place = {0, 0, 0, 0, 0, 2, 2, 2, 2, 3, 3, 3, 2, 2, 3, 1, 3, 5, 4, 1, 3, 3, 2, 1, 1, 1, 3, 4, 39, 40, 40, 40, 40,
            40, 40, 22, 1, 0};
        for (int k = 0; k < wrong.length; k++) {
            String s = wrong[k];
            Due.leaves(x, "rule() of " + s, -1 - place[k], () -> Due.rule(x, s));
            Due.is("room(0, 3), by the rule as it was", x.room(0, 3), 7);
        }
        Due.is("rule() of 40 signs", Due.rule(x, forty.substring(0, 38) + "99"), 0);
        Due.is("room(0, 3)", x.room(0, 3), 50);
        Due.is("rule() of 39 minus", Due.rule(x, "-".repeat(38) + "w"), 0);
        Due.is("room(0, 3)", x.room(0, 3), 9);
        Due.is("rule() of nothing", Due.rule(x, ""), 0);
        Due.is("room(0, 3)", x.room(0, 3), 4);
    }

    private static void room() {
        Due.promise("7: room");
        LetByTheDegree x = Due.of("10,4/6,8", "a1:405060;a1:222222;b2:900000");
        x.stove(4);
        long[][] want = {{10, 0, 6, 3, 3, 0}, {4, 0, 0, 0, 0, 0}, null, {6, 0, 0, 0, 0, 0}, {8, 0, 14, 7, 4, 1}};
        for (int r = 0; r < want.length; r++) {
            for (int what = 0; want[r] != null && what < 6; what++) {
                Due.is("room(" + r + ", " + what + ")", x.room(r, what), want[r][what]);
            }
        }
        for (int r : new int[] {-1, 2, 5, 6, 7, 8, 9, 12, Integer.MAX_VALUE, Integer.MIN_VALUE}) {
            Due.throwsNone("room(" + r + ", 0)", () -> x.room(r, 0));
        }
        for (int what : new int[] {-1, 6, Integer.MAX_VALUE, Integer.MIN_VALUE}) {
            Due.throwsNone("room(0, " + what + ")", () -> x.room(0, what));
        }
        x.hour();
        // What melted is WATER 3, of which FROST made 2 ICE; the cycle's second HOUR has 0 and 2.
        long[] then = {9, 1, 2, 1, 3, 0};
        for (int what = 0; what < 6; what++) {
            Due.is("room(0, " + what + ")", x.room(0, what), then[what]);
        }
        Due.rule(x, "99");
        Due.is("room(0, 3)", x.room(0, 3), 9);
    }

    private static void person() {
        Due.promise("8: person");
        LetByTheDegree x = Due.thin("1/9", "a1:405060;a2:123456");
        long[][] want = {{0, 0, 0, 4, 15}, {3, 0, 0, 1, 21}};
        long[][] then = {{3, 4, 1, 0, 15}, {3, 1, 0, 2, 21}};
        for (int p = 0; p < 2; p++) {
            for (int what = 0; what < 5; what++) {
                Due.is("person(" + p + ", " + what + ")", x.person(p, what), want[p][what]);
            }
        }
        x.hour();
        for (int p = 0; p < 2; p++) {
            for (int what = 0; what < 5; what++) {
                Due.is("person(" + p + ", " + what + ") then", x.person(p, what), then[p][what]);
            }
        }
        for (int k = 1; k <= 12; k++) {
            x.set(1, 9);
            x.hour();
            Due.is("person(1, 3)", x.person(1, 3), 1 + x.count(8) % 6);
        }
        for (int p : new int[] {-1, 2, 5, Integer.MAX_VALUE, Integer.MIN_VALUE}) {
            Due.throwsNone("person(" + p + ", 0)", () -> x.person(p, 0));
        }
        for (int what : new int[] {-1, 5, Integer.MAX_VALUE, Integer.MIN_VALUE}) {
            Due.throwsNone("person(0, " + what + ")", () -> x.person(0, what));
        }
        LetByTheDegree y = Due.thin("0", "a1:700000");
        y.hour();
        Due.is("person(0, 0) of one who is OUT", y.person(0, 0), -1);
    }

    private static void set() {
        Due.promise("9: set");
        LetByTheDegree x = Due.of("9", "a1:200000");
        x.stove(0);
        x.water();
        Due.is("set(0, 9)", x.set(0, 9), 5);
        Due.is("set(1, 0)", x.set(1, 0), 2);
        Due.is("set(2, 4)", x.set(2, 4), 1);
        Due.is("count(5)", x.count(5), 9);
        Due.is("count(6)", x.count(6), 0);
        Due.is("count(7)", x.count(7), 4);
        Due.is("room(0, 2)", x.room(0, 2), 11);
        Due.is("set(0, 0)", x.set(0, 0), 9);
        Due.is("set(1, 9)", x.set(1, 9), 0);
        Due.is("set(2, 9)", x.set(2, 9), 4);
        Due.is("set(2, 3)", x.set(2, 3), 9);
        int[][] wrong = {{-1, 0}, {3, 0}, {0, -1}, {1, -1}, {2, -1}, {0, 10}, {1, 10}, {2, 10}, {Integer.MIN_VALUE, 5},
            {0, Integer.MAX_VALUE}};
        for (int[] w : wrong) {
            Due.leaves(x, "set(" + w[0] + ", " + w[1] + ")", -1, () -> x.set(w[0], w[1]));
        }
        Due.is("count(10), as that can't be undone", x.count(10), 1);
        x.hour();
        Due.is("person(0, 1)", x.person(0, 1), 6);
    }

    private static void doing() {
        Due.promise("10: doing");
        LetByTheDegree x = Due.of("9", "a1:123456;a1:000000");
        x.water();
        Due.is("doing(0, 0, 9)", x.doing(0, 0, 9), 1);
        Due.is("doing(0, 0, 7)", x.doing(0, 0, 7), 9);
        Due.is("doing(0, 5, 0)", x.doing(0, 5, 0), 6);
        Due.is("doing(1, 5, 8)", x.doing(1, 5, 8), 0);
        Due.is("person(0, 3)", x.person(0, 3), 7);
        Due.is("person(0, 4)", x.person(0, 4), 21);
        Due.is("person(1, 4)", x.person(1, 4), 8);
        int[][] wrong = {{-1, 0, 0}, {2, 0, 0}, {0, -1, 0}, {0, 6, 0}, {0, 0, -1}, {0, 0, 10}, {1, 7, 3}, {5, 5, 5},
            {Integer.MAX_VALUE, 0, 0}, {0, Integer.MIN_VALUE, 0}};
        for (int[] w : wrong) {
            Due.leaves(x, "doing(" + w[0] + ", " + w[1] + ", " + w[2] + ")", -1, () -> x.doing(w[0], w[1], w[2]));
        }
    }

    private static void ice(LetByTheDegree x, int... want) {
        for (int k = 0; k < want.length; k++) {
            int r = 3 * (k / x.count(0)) + k % x.count(0);
            Due.is("room(" + r + ", 0)", x.room(r, 0), want[k]);
        }
    }

    private static void sheet() {
        Due.promise("11: sheet");
        LetByTheDegree x = Due.of("1,2/3,4", "a1:900000");
        x.hour();
        x.water();
        int water = x.room(0, 1);
        Due.is("sheet(2, 4, 5, 7)", x.sheet(2, 4, 5, 7), 62);
        ice(x, 5, 12, 19, 26);
        Due.is("sheet(2, 3, 50, 40)", x.sheet(2, 3, 50, 40), 239);
        ice(x, 50, 90, 99, 0);
        Due.is("sheet(2, 9, 3, -1)", x.sheet(2, 9, 3, -1), 6);
        ice(x, 3, 2, 1, 0);
        Due.is("sheet(2, 4, 1, -3)", x.sheet(2, 4, 1, -3), 1);
        ice(x, 1, 0, 0, 0);
        Due.is("sheet(0, 4, 254, 1)", x.sheet(0, 4, 254, 1), 1);
        ice(x, 0, 0, 0, 1);
        Due.is("sheet(0, 4, 127, 128)", x.sheet(0, 4, 127, 128), 198);
        ice(x, 99, 0, 99, 0);
        Due.is("sheet(1, 4, 65535, 1)", x.sheet(1, 4, 65535, 1), 3);
        ice(x, 0, 0, 1, 2);
        Due.is("sheet(1, 2, 256, 65536)", x.sheet(1, 2, 256, 65536), 198);
        ice(x, 99, 99, 0, 0);
        Due.is("sheet(2, 4, 2147483647, 1)", x.sheet(2, 4, Integer.MAX_VALUE, 1), 99);
        ice(x, 99, 0, 0, 0);
        Due.is("sheet(2, 0, 7, 7)", x.sheet(2, 0, 7, 7), 0);
        ice(x, 0, 0, 0, 0);
        x.sheet(2, 4, 8, 0);
        Due.leaves(x, "sheet(0, -1, 7, 7)", -2, () -> x.sheet(0, -1, 7, 7));
        Due.leaves(x, "sheet(1, -1, 7, 7)", -2, () -> x.sheet(1, -1, 7, 7));
        Due.leaves(x, "sheet(2, -9, 7, 7)", -2, () -> x.sheet(2, -9, 7, 7));
        Due.leaves(x, "sheet(4, 1, 7, 7)", -1, () -> x.sheet(4, 1, 7, 7));
        Due.leaves(x, "sheet(-1, 1, 7, 7)", -1, () -> x.sheet(-1, 1, 7, 7));
        Due.leaves(x, "sheet(4, -1, 7, 7)", -1, () -> x.sheet(4, -1, 7, 7));
        Due.leaves(x, "sheet(0, 10, 7, 7)", -1, () -> x.sheet(0, 10, 7, 7));
        Due.leaves(x, "sheet(3, 10, 7, 7)", -1, () -> x.sheet(3, 10, 7, 7));
        ice(x, 8, 8, 8, 8);
        Due.is("sheet(3, -1, 7, 7)", x.sheet(3, -1, 7, 7), -3);
        ice(x, 0, 0, 0, 0);
        Due.is("room(0, 1)", x.room(0, 1), water);
        Due.is("count(10)", x.count(10), 1);
        Due.is("count(11)", x.count(11), 3);
        LetByTheDegree y = Due.of("1,1,1/1,1,1/1,1,1", "");
        Due.is("sheet(0, 9, 1, 1)", y.sheet(0, 9, 1, 1), 45);
        ice(y, 1, 2, 3, 4, 5, 6, 7, 8, 9);
    }
}
