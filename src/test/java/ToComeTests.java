/** Promises 19 to 26: hours to come, who lives where. */
public final class ToComeTests {
    public static void main(String[] args) {
        thick();
        gives();
        drips();
        coldest();
        lodge();
        lodgeWho();
        longest();
        longestWho();
        quiet();
        quietMore();
        burden();
        Due.end();
    }

    private static void thick() {
        Due.promise("19: thick");
        LetByTheDegree x = Due.of("10,4/6,8", "a1:405060;a1:222222;b2:900000");
        Due.asks(x, "thick(0, 0)", 10, () -> x.thick(0, 0), 0, 0);
        Due.asks(x, "thick(0, 1)", 9, () -> x.thick(0, 1), 1, 0);
        Due.asks(x, "thick(4, 1)", 6, () -> x.thick(4, 1), 2, 0);
        Due.asks(x, "thick(4, 2)", 6, () -> x.thick(4, 2), 0, 2);
        x.stove(1);
        x.set(1, 0);
        x.hours(2);
        Due.asks(x, "thick(1, 0)", 0, () -> x.thick(1, 0), 2, 4);
        Due.asks(x, "thick(1, 100)", 0, () -> x.thick(1, 100), 0, 28);
        Due.leaves(x, "thick(0, 101)", -2, () -> x.thick(0, 101));
        Due.leaves(x, "thick(0, -1)", -2, () -> x.thick(0, -1));
        Due.leaves(x, "thick(2, 101)", -2, () -> x.thick(2, 101));
        Due.leaves(x, "thick(2, 1)", -3, () -> x.thick(2, 1));
        Due.leaves(x, "thick(-1, 1)", -3, () -> x.thick(-1, 1));
        Due.leaves(x, "thick(9, 100)", -3, () -> x.thick(9, 100));
    }

    private static void gives() {
        Due.promise("20: gives");
        LetByTheDegree x = Due.thin("0,7,9/0,9,0", "b1:444444;c1:666666;a1:000000;b2:000000");
        // 2 an HOUR of 7 are gone in the 4th, 3 of 9 in the 3rd.
        Due.asks(x, "gives()", 3, () -> x.gives(), 2, 2);
        x.hours(1);
        Due.asks(x, "gives()", 2, () -> x.gives(), 2, 2);
        x.hours(2);
        Due.asks(x, "gives()", 1, () -> x.gives(), 1, 1);
        x.hours(1);
        Due.asks(x, "gives()", 5, () -> x.gives(), 4, 9);
        LetByTheDegree y = Due.thin("3,3,9/0,9,0", "b1:666666;a1:666666;a2:000000");
        // Of two rooms the first; all who fall in that HOUR, from whichever floor.
        Due.asks(y, "gives()", 1, () -> y.gives(), 0, 7);
        LetByTheDegree z = Due.thin("99", "a1:222222");
        Due.asks(z, "gives()", 99, () -> z.gives(), 0, 1);
        Due.rule(z, "w/2-(h=5)");
        Due.asks(z, "gives()", 100, () -> z.gives(), 0, 1);
        Due.rule(z, "w/2-(h=5)-(h=6)");
        Due.leaves(z, "gives()", -2, () -> z.gives());
        z.set(1, 1);
        Due.leaves(z, "gives()", -2, () -> z.gives());
        LetByTheDegree n = new LetByTheDegree();
        n.water();
        Due.leaves(n, "gives()", -2, () -> n.gives());
        LetByTheDegree b = Due.thin("0,0", "a1:999999");
        b.water();
        Due.leaves(b, "gives()", -2, () -> b.gives());
    }

    private static void drips() {
        Due.promise("21: drips");
        LetByTheDegree x = Due.thin("5,8,8/3,9,9", "a1:444444;b2:888888");
        Due.asks(x, "drips(0)", 0, () -> x.drips(0), 4, 9);
        Due.asks(x, "drips(1)", 0, () -> x.drips(1), 5, 9);
        Due.asks(x, "drips(2)", 4, () -> x.drips(2), 5, 9);
        Due.asks(x, "drips(3)", 10, () -> x.drips(3), 5, 9);
        x.hours(2);
        Due.asks(x, "drips(1)", 6, () -> x.drips(1), 5, 9);
        Due.asks(x, "drips(100)", 13, () -> x.drips(100), 5, 9);
        Due.leaves(x, "drips(-1)", -1, () -> x.drips(-1));
        Due.leaves(x, "drips(101)", -1, () -> x.drips(101));
        x.sheet(3, 0, 0, 0);
        Due.asks(x, "drips(0)", 0, () -> x.drips(0), 0, 0);
        LetByTheDegree n = new LetByTheDegree();
        Due.asks(n, "drips(100)", 0, () -> n.drips(100), -1, 0);
    }

    private static void coldest() {
        Due.promise("22: coldest");
        LetByTheDegree x = Due.of("4", "a1:444444");
        x.water();
        Due.leaves(x, "coldest(1)", 0, () -> x.coldest(1));
        Due.leaves(x, "coldest(2)", 1, () -> x.coldest(2));
        Due.leaves(x, "coldest(100)", 1, () -> x.coldest(100));
        Due.rule(x, "h=98");
        Due.leaves(x, "coldest(99)", 0, () -> x.coldest(99));
        x.sheet(2, 1, 1, 0);
        Due.leaves(x, "coldest(98)", 0, () -> x.coldest(98));
        Due.leaves(x, "coldest(99)", 1, () -> x.coldest(99));
        for (int n : new int[] {0, -1, 101, Integer.MAX_VALUE}) {
            Due.leaves(x, "coldest(" + n + ")", -1, () -> x.coldest(n));
        }
        LetByTheDegree n = new LetByTheDegree();
        Due.leaves(n, "coldest(1)", 0, () -> n.coldest(1));
    }

    private static void lodge() {
        Due.promise("23: lodge");
        LetByTheDegree x = Due.thin("2,9", "a1:444444;a1:222222");
        // Two ways: the one who melts 2 an HOUR in the room with 2, or the one who melts 1.
        Due.asks(x, "lodge(1)", 1, () -> x.lodge(1), 1, 0);
        Due.asks(x, "lodge(2)", 0, () -> x.lodge(2));
        x.sheet(2, 2, 3, 1);
        Due.asks(x, "lodge(1)", 2, () -> x.lodge(1), 0, 1);
        Due.asks(x, "lodge(2)", 0, () -> x.lodge(2));
        x.sheet(2, 2, 5, 1);
        Due.asks(x, "lodge(2)", 2, () -> x.lodge(2), 0, 1);
        Due.asks(x, "lodge(3)", 0, () -> x.lodge(3));
        x.sheet(2, 2, 41, 40);
        Due.asks(x, "lodge(40)", 1, () -> x.lodge(40), 1, 0);
        for (int n : new int[] {0, -1, 41, Integer.MIN_VALUE}) {
            Due.leaves(x, "lodge(" + n + ")", -1, () -> x.lodge(n));
        }
        LetByTheDegree y = Due.of("9,9,9/9,9,9/9,9,9", "b2:000000;b2:000000;b2:000000;b2:000000");
        Due.asks(y, "lodge(40)", 3024, () -> y.lodge(40), 0, 1, 2, 3);
        // One above another in a house of one column, by the storeys.
        LetByTheDegree z = Due.thin("2/3/4", "a1:222222;a1:444444;a1:666666");
        Due.asks(z, "lodge(1)", 1, () -> z.lodge(1), 0, 3, 6);
        // Where 2 less melt, the third has to live; in the two other rooms 1 and 2 melt.
        Due.rule(z, "w/2-(y=1)*2");
        z.sheet(2, 3, 3, 0);
        Due.asks(z, "lodge(1)", 2, () -> z.lodge(1), 0, 6, 3);
        Due.asks(z, "lodge(2)", 0, () -> z.lodge(2));
        z.sheet(2, 3, 3, 1);
        Due.asks(z, "lodge(2)", 1, () -> z.lodge(2), 0, 6, 3);
    }

    private static void lodgeWho() {
        Due.promise("23: lodge, who and where");
        // The stove stays, one who is OUT is not asked.
        LetByTheDegree x = Due.thin("0,2", "a1:000000;b1:222222");
        x.hour();
        x.sheet(2, 2, 5, 0);
        x.stove(0);
        Due.asks(x, "lodge(2)", 1, () -> x.lodge(2), 1);
        LetByTheDegree y = Due.of("9,9/9,9", "a1:000000;a1:000000;a1:000000;a1:000000;a1:000000");
        y.water();
        Due.leaves(y, "lodge(1)", -3, () -> y.lodge(1));
        Due.leaves(y, "lodge(41)", -1, () -> y.lodge(41));
        LetByTheDegree z = Due.of("9", "a1:000000;a1:000000");
        Due.asks(z, "lodge(1), with fewer rooms", 0, () -> z.lodge(1));
        LetByTheDegree w = Due.thin("1,5", "");
        Due.asks(w, "lodge(40) of nobody", 1, () -> w.lodge(40));
        w.stove(0);
        Due.asks(w, "lodge(1) of nobody", 0, () -> w.lodge(1));
        LetByTheDegree n = new LetByTheDegree();
        Due.asks(n, "lodge(40)", 1, () -> n.lodge(40));
        // One may live where there is no ICE.
        LetByTheDegree v = Due.thin("0,1", "b1:999999");
        Due.asks(v, "lodge(9)", 1, () -> v.lodge(9), 0);
    }

    private static void longest() {
        Due.promise("24: longest");
        LetByTheDegree x = Due.thin("9,20", "a1:444444;a1:222222");
        // 9 stands for 4 with the first, 8 with the second, 20 for 9 and 19.
        Due.asks(x, "longest()", 8, () -> x.longest(), 1, 0);
        x.sheet(2, 2, 20, 0);
        Due.asks(x, "longest()", 9, () -> x.longest(), 0, 1);
        x.sheet(2, 2, 1, 0);
        Due.asks(x, "longest()", 0, () -> x.longest(), 0, 1);
        x.set(1, 1);
        Due.asks(x, "longest()", 100, () -> x.longest(), 0, 1);
        LetByTheDegree y = Due.thin("99", "a1:222222");
        Due.asks(y, "longest()", 98, () -> y.longest(), 0);
        Due.rule(y, "w/2-(h=4)");
        Due.asks(y, "longest()", 99, () -> y.longest(), 0);
        Due.rule(y, "w/2-(h=4)-(h=7)");
        Due.asks(y, "longest()", 100, () -> y.longest(), 0);
    }

    private static void longestWho() {
        Due.promise("24: longest, who and where");
        LetByTheDegree n = new LetByTheDegree();
        Due.asks(n, "longest()", 100, () -> n.longest());
        LetByTheDegree x = Due.of("9", "a1:000000;a1:000000");
        x.water();
        Due.leaves(x, "longest()", -2, () -> x.longest());
        LetByTheDegree y = Due.of("9,9/9,9", "a1:000000;a1:000000;a1:000000;a1:000000;a1:000000");
        y.water();
        Due.leaves(y, "longest()", -2, () -> y.longest());
        LetByTheDegree z = Due.of("9,9/9,9/9,9", "a1:000000;a1:000000;a1:000000;a1:000000;a1:000000");
        z.water();
        Due.leaves(z, "longest()", -3, () -> z.longest());
        LetByTheDegree v = Due.thin("9,9/9,0", "a1:000000;a1:000000;a1:000000;a1:000000;b2:000000");
        v.hour();
        Due.asks(v, "longest() of four, one OUT", 100, () -> v.longest(), 0, 1, 3, 4);
        LetByTheDegree w = Due.thin("2,9/4,9", "a1:444444");
        w.stove(3);
        Due.asks(w, "longest()", 1, () -> w.longest(), 1);
        w.stove(4);
        Due.asks(w, "longest()", 4, () -> w.longest(), 1);
    }

    private static void quiet() {
        Due.promise("25: quiet");
        LetByTheDegree x = Due.thin("5,9", "a1:444444;b1:444444");
        Due.asks(x, "quiet(2)", 0, () -> x.quiet(2));
        Due.asks(x, "quiet(3)", 1, () -> x.quiet(3), 0);
        Due.asks(x, "quiet(4)", 2, () -> x.quiet(4), 0, 1);
        Due.leaves(x, "quiet(6)", -2, () -> x.quiet(6));
        x.sheet(2, 2, 6, 3);
        // 2 an HOUR: of 6 ICE two HOURS can be paid, of 9 four.
        Due.asks(x, "quiet(4)", 2, () -> x.quiet(4), 0, 1);
        x.sheet(2, 2, 7, 2);
        Due.asks(x, "quiet(5)", 3, () -> x.quiet(5), 0, 1, 6);
        x.doing(0, 0, 0);
        Due.asks(x, "quiet(5)", 2, () -> x.quiet(5), 1, 6);
        x.hour();
        Due.asks(x, "quiet(1)", 0, () -> x.quiet(1));
        for (int n : new int[] {0, -1, 41, Integer.MAX_VALUE}) {
            Due.leaves(x, "quiet(" + n + ")", -1, () -> x.quiet(n));
        }
        // Left off is an HOUR of the cycle: all of them to come.
        LetByTheDegree y = Due.thin("7", "a1:200000");
        Due.asks(y, "quiet(36)", 0, () -> y.quiet(36));
        Due.asks(y, "quiet(40)", 1, () -> y.quiet(40), 0);
        y.hours(3);
        y.sheet(2, 1, 2, 0);
        Due.asks(y, "quiet(9)", 0, () -> y.quiet(9));
        Due.asks(y, "quiet(10)", 1, () -> y.quiet(10), 0);
    }

    private static void quietMore() {
        Due.promise("25: quiet, the least row");
        LetByTheDegree x = Due.thin("3", "a1:010203;a1:222222");
        Due.rule(x, "w*(w>3)");
        // Only in the 4th HOUR (4) and the 6th (5) is w above 3.
        Due.asks(x, "quiet(3)", 0, () -> x.quiet(3));
        Due.asks(x, "quiet(4)", 1, () -> x.quiet(4), 3);
        Due.asks(x, "quiet(6)", 2, () -> x.quiet(6), 3, 5);
        x.doing(0, 3, 3);
        x.doing(1, 3, 1);
        Due.asks(x, "quiet(6)", 2, () -> x.quiet(6), 3, 5);
        Due.rule(x, "(w>3)*3-(n=1)*9");
        Due.asks(x, "quiet(6)", 2, () -> x.quiet(6), 3, 5);
        LetByTheDegree y = Due.thin("1/9", "a1:000000;a2:000000");
        Due.rule(y, "9");
        y.water();
        Due.leaves(y, "quiet(1)", -2, () -> y.quiet(1));
        LetByTheDegree z = Due.thin("4,4,4", "a1:999999;b1:999999;c1:999999");
        Due.asks(z, "quiet(1)", 3, () -> z.quiet(1), 0, 6, 12);
        z.sheet(2, 3, 4, 1);
        Due.asks(z, "quiet(1)", 1, () -> z.quiet(1), 0);
        LetByTheDegree v = Due.thin("4,4/4,4", "a1:999999;b1:999999;a2:999999;b2:999999");
        v.water();
        Due.leaves(v, "quiet(1), for which four were needed", -2, () -> v.quiet(1));
        // A warmth that is needed: by leaving it off it would not stand.
        LetByTheDegree w = Due.thin("5", "a1:100000;a1:030000");
        Due.rule(w, "(w=0)*(h=0)*9+(w>2)*9");
        Due.asks(w, "quiet(2)", 1, () -> w.quiet(2), 7);
        LetByTheDegree n = new LetByTheDegree();
        Due.asks(n, "quiet(40)", 0, () -> n.quiet(40));
        LetByTheDegree o = Due.thin("0,1", "a1:999999;b1:999999");
        o.hour();
        o.sheet(2, 2, 1, 0);
        o.move(1, 1);
        Due.asks(o, "quiet(3), one OUT", 3, () -> o.quiet(3), 7, 8, 9);
    }

    private static void burden() {
        Due.promise("26: burden");
        LetByTheDegree x = Due.thin("10", "a1:222222;a1:444444;a1:444444");
        // 5 melt by all, 4 without the first, 3 without the second or the third.
        Due.asks(x, "burden()", 1, () -> x.burden(), 3, 1);
        x.sheet(2, 1, 9, 0);
        Due.asks(x, "burden()", 0, () -> x.burden(), 2, 1);
        x.sheet(2, 1, 99, 0);
        Due.asks(x, "burden()", 1, () -> x.burden(), 32, 19);
        x.set(1, 1);
        Due.asks(x, "burden()", 0, () -> x.burden(), 100, 100);
        LetByTheDegree y = Due.thin("0,1", "a1:000000;b1:999999;b1:000000");
        y.hour();
        Due.leaves(y, "burden() of nobody", -2, () -> y.burden());
        y.move(1, 0);
        y.sheet(2, 2, 5, 0);
        Due.asks(y, "burden(), the others OUT", 1, () -> y.burden(), 100, 1);
        LetByTheDegree n = new LetByTheDegree();
        n.water();
        Due.leaves(n, "burden()", -2, () -> n.burden());
    }
}
