/** Promises 27 to 33: shares, who was warm, the stove, each as he likes. */
public final class SharesTests {
    public static void main(String[] args) {
        share();
        charges();
        warm();
        look();
        carry();
        carryFalls();
        hearth();
        rests();
        restsMore();
        Due.end();
    }

    private static void share() {
        Due.promise("27: share");
        LetByTheDegree x = Due.thin("10,0/9,9", "a1:400000;a1:200000;b1:900000;a2:000000;b2:300000");
        Due.asks(x, "share(0)", 0, () -> x.share(0), 2, 1);
        Due.asks(x, "share(1)", 0, () -> x.share(1), 1, 1);
        Due.asks(x, "share(2), where nothing can melt", 0, () -> x.share(2), 0, 1);
        Due.asks(x, "share(3), who is not warm", 0, () -> x.share(3), 0, 1);
        Due.asks(x, "share(4)", 0, () -> x.share(4), 1, 1);
        x.stove(0);
        // 11/2 melts; HEAT has a part in it.
        Due.asks(x, "share(0)", 0, () -> x.share(0), 20, 11);
        Due.asks(x, "share(1)", 0, () -> x.share(1), 10, 11);
        x.set(0, 9);
        Due.asks(x, "share(0)", 0, () -> x.share(0), 28, 15);
        x.set(0, 0);
        Due.rule(x, "5");
        Due.asks(x, "share(0)", 0, () -> x.share(0), 10, 3);
        Due.asks(x, "share(3), without warmth", 0, () -> x.share(3), 0, 1);
        x.sheet(2, 1, 3, 0);
        Due.asks(x, "share(0)", 0, () -> x.share(0), 2, 1);
        for (int p : new int[] {-1, 5, Integer.MAX_VALUE, Integer.MIN_VALUE}) {
            Due.leaves(x, "share(" + p + ")", -1, () -> x.share(p));
        }
        x.sheet(3, 0, 0, 0);
        x.hour();
        Due.leaves(x, "share(0), OUT", -2, () -> x.share(0));
        LetByTheDegree y = Due.of("99", "a1:777777");
        Due.rule(y, "w*9");
        Due.asks(y, "share(0)", 0, () -> y.share(0), 63, 1);
    }

    private static void charges() {
        Due.promise("28: charges");
        LetByTheDegree x = Due.thin("3,9/0,50", "a1:456000;b1:111111;a2:987654;b2:000000");
        x.set(2, 7);
        Due.asks(x, "charges(0)", 0, () -> x.charges(0), 0, 0, 0, 0);
        Due.asks(x, "charges(1)", 9, () -> x.charges(1), 4, 1, 9, 0);
        // The third is OUT behind the first HOUR, the first behind the second.
        Due.asks(x, "charges(2)", 9, () -> x.charges(2), 9, 2, 9, 0);
        Due.asks(x, "charges(3)", 9, () -> x.charges(3), 9, 3, 9, 0);
        Due.asks(x, "charges(100)", 100, () -> x.charges(100), 9, 100, 9, 0);
        Due.leaves(x, "charges(-1)", -1, () -> x.charges(-1));
        Due.leaves(x, "charges(101)", -1, () -> x.charges(101));
        x.set(2, 0);
        Due.asks(x, "charges(1), whatever PRICE is", 9, () -> x.charges(1), 4, 1, 9, 0);
        LetByTheDegree n = new LetByTheDegree();
        Due.asks(n, "charges(100)", 0, () -> n.charges(100));
        LetByTheDegree y = Due.of("99", "a1:123456");
        Due.asks(y, "charges(8)", 24, () -> y.charges(8), 24);
        y.hours(4);
        Due.asks(y, "charges(3), of what is to come", 12, () -> y.charges(3), 12);
    }

    private static void warm() {
        Due.promise("29: warm");
        LetByTheDegree x = Due.of("10,4/6,8", "a1:405060;a1:222222;b2:900000");
        Due.asks(x, "warm(0, 0)", 1, () -> x.warm(0, 0), 0, 0);
        Due.asks(x, "warm(0, 3)", 1, () -> x.warm(0, 3), 3, 3);
        Due.asks(x, "warm(1, 4), which is all its ICE", 4, () -> x.warm(1, 4), 4, 4);
        Due.asks(x, "warm(0, 9)", 0, () -> x.warm(0, 9), -1, 0);
        Due.asks(x, "warm(4, 99)", 0, () -> x.warm(4, 99), -1, 0);
        x.stove(1);
        Due.asks(x, "warm(1, 2)", 1, () -> x.warm(1, 2), 0, 0);
        Due.asks(x, "warm(1, 3)", 1, () -> x.warm(1, 3), 2, 2);
        Due.asks(x, "warm(1, 4)", 6, () -> x.warm(1, 4), 1, 0);
        Due.asks(x, "warm(3, 6)", 2, () -> x.warm(3, 6), 5, 5);
        Due.rule(x, "n");
        Due.asks(x, "warm(0, 2)", 3, () -> x.warm(0, 2), 3, 0);
        Due.rule(x, "99");
        Due.asks(x, "warm(0, 10)", 8, () -> x.warm(0, 10), 0, 0);
        int[][] wrong = {{-1, 0}, {2, 0}, {5, 0}, {6, 0}, {9, 0}, {0, -1}, {0, 100}, {2, 100}, {Integer.MAX_VALUE, 1}};
        for (int[] w : wrong) {
            Due.leaves(x, "warm(" + w[0] + ", " + w[1] + ")", -1, () -> x.warm(w[0], w[1]));
        }
        LetByTheDegree y = Due.of("99", "");
        Due.asks(y, "warm(0, 0) of nobody", 1, () -> y.warm(0, 0), 0, 0);
        Due.asks(y, "warm(0, 99) of nobody", 0, () -> y.warm(0, 99), -1, 0);
        Due.rule(y, "99");
        Due.asks(y, "warm(0, 99) of nobody", 1, () -> y.warm(0, 99), 0, 0);
        // One who is OUT could be in it, too; the cycle's HOUR is NOW.
        LetByTheDegree z = Due.thin("9,0", "b1:006000;a1:000000");
        z.hours(2);
        Due.asks(z, "warm(0, 3)", 2, () -> z.warm(0, 3), 1, 1);
    }

    private static void look() {
        Due.promise("30: look");
        LetByTheDegree x = Due.of("10,4/6,8", "a1:405060;a1:222222;b2:900000");
        Due.asks(x, "look()", 0, () -> x.look(), 8, 7);
        x.sheet(2, 4, 2, 2);
        // ICE 2, 4, 6, 8: in the last, 0 1 2 3 4 5 6 7 would.
        Due.asks(x, "look()", 4, () -> x.look(), 8, 7);
        x.sheet(2, 4, 5, 0);
        Due.asks(x, "look(), of equal ones", 0, () -> x.look(), 6, 5);
        x.sheet(3, 0, 0, 0);
        Due.asks(x, "look() without ICE", 0, () -> x.look(), 1, 0);
        x.sheet(2, 4, 99, 0);
        Due.rule(x, "w+50+y*40");
        Due.asks(x, "look()", 0, () -> x.look(), 8, 65);
        x.stove(3);
        Due.rule(x, "w*(y=1)");
        Due.asks(x, "look()", 3, () -> x.look(), 8, 20);
        Due.rule(x, "n*30");
        Due.asks(x, "look()", 0, () -> x.look(), 4, 90);
        Due.rule(x, "64*(n=3)");
        Due.asks(x, "look()", 0, () -> x.look(), 2, 64);
        Due.rule(x, "63+n");
        Due.asks(x, "look()", 0, () -> x.look(), 4, 66);
        LetByTheDegree n = new LetByTheDegree();
        n.water();
        Due.leaves(n, "look()", -2, () -> n.look());
        LetByTheDegree y = Due.of("0,9", "");
        Due.asks(y, "look() of nobody", 0, () -> y.look(), 1, 0);
        Due.rule(y, "n");
        Due.asks(y, "look() of nobody", 0, () -> y.look(), 1, 0);
        Due.rule(y, "");
        y.stove(1);
        Due.asks(y, "look() of nobody", 0, () -> y.look(), 1, 0);
        LetByTheDegree z = Due.of("99", "a1:111111;a1:222222;a1:444444;a1:888888;a1:999999");
        Due.rule(z, "w");
        Due.asks(z, "look()", 0, () -> z.look(), 25, 24);
    }

    private static void carry() {
        Due.promise("31: carry");
        LetByTheDegree x = Due.thin("20,20,20/20,20,20/20,20,20", "");
        x.stove(4);
        x.set(0, 9);
        // 9/2 wherever it is: the least row.
        Due.asks(x, "carry(1)", 4, () -> x.carry(1), 1);
        Due.asks(x, "carry(2)", 8, () -> x.carry(2), 1, 0);
        Due.asks(x, "carry(5)", 20, () -> x.carry(5), 1, 0, 0, 0, 0);
        // 1 melts in each room of the highest storey without it; with it, 10, 5 and 3 by the storeys.
        Due.rule(x, "(w+1)/(y+1)");
        Due.asks(x, "carry(1)", 6, () -> x.carry(1), 7);
        Due.asks(x, "carry(2)", 12, () -> x.carry(2), 7, 6);
        x.stove(2);
        Due.asks(x, "carry(1)", 8, () -> x.carry(1), 5);
        Due.asks(x, "carry(3)", 20, () -> x.carry(3), 5, 8, 7);
        x.stove(0);
        Due.asks(x, "carry(2), not round the corner", 14, () -> x.carry(2), 3, 6);
        for (int n : new int[] {0, -1, 6, Integer.MAX_VALUE}) {
            Due.leaves(x, "carry(" + n + ")", -1, () -> x.carry(n));
        }
        x.stove(-1);
        Due.leaves(x, "carry(1)", -2, () -> x.carry(1));
        Due.leaves(x, "carry(6)", -1, () -> x.carry(6));
        LetByTheDegree y = Due.of("1,9,9/9,9,9", "");
        y.stove(3);
        Due.asks(y, "carry(1), where little ICE is", 1, () -> y.carry(1), 0);
        y.stove(2);
        Due.asks(y, "carry(2)", 3, () -> y.carry(2), 1, 0);
        y.stove(-1);
        y.stove(5);
        Due.asks(y, "carry(1)", 2, () -> y.carry(1), 2);
        // Rooms whose numbers follow one another are not beside one another from storey to storey.
        LetByTheDegree v = Due.of("9,9,0/9,9,9", "");
        v.stove(3);
        Due.asks(v, "carry(1)", 2, () -> v.carry(1), 0);
        LetByTheDegree w = Due.of("9,9,9/0,9,9", "");
        w.stove(2);
        Due.asks(w, "carry(1)", 2, () -> w.carry(1), 1);
        LetByTheDegree u = Due.of("9,9,1", "");
        u.stove(0);
        Due.asks(u, "carry(2), to the right", 3, () -> u.carry(2), 1, 2);
        u.stove(1);
        Due.asks(u, "carry(1), to the right", 1, () -> u.carry(1), 2);
        LetByTheDegree z = Due.of("9,9/9,9", "");
        z.stove(1);
        Due.rule(z, "w*(y=0)");
        Due.asks(z, "carry(1)", 0, () -> z.carry(1), 4);
        Due.asks(z, "carry(2)", 0, () -> z.carry(2), 4, 3);
    }

    private static void carryFalls() {
        Due.promise("31: carry, falls");
        LetByTheDegree x = Due.thin("1,9/9,9", "");
        x.stove(0);
        x.set(0, 9);
        // It falls to 3 in the first HOUR, and can't be carried back to a floor that is gone for less than 0.
        Due.asks(x, "carry(1)", 1, () -> x.carry(1), 0);
        Due.asks(x, "carry(2)", 1, () -> x.carry(2), 0, 0);
        Due.asks(x, "carry(3)", 1, () -> x.carry(3), 0, 0, 0);
        LetByTheDegree y = Due.thin("1", "a1:000000");
        y.stove(0);
        Due.asks(y, "carry(1)", 1, () -> y.carry(1), 0);
        Due.asks(y, "carry(3)", 1, () -> y.carry(3), 0, 9, 9);
        LetByTheDegree z = Due.thin("9,9,9/2,9,9", "b1:444444");
        z.stove(3);
        // Out by the lowest floor, and what others melt then counts, too.
        Due.asks(z, "carry(3)", 8, () -> z.carry(3), 3, 9, 9);
    }

    private static void hearth() {
        Due.promise("32: hearth");
        LetByTheDegree x = Due.thin("20,1/9,20", "a1:222222");
        Due.asks(x, "hearth(1)", 1, () -> x.hearth(1), 2, 1);
        // In room 1 it falls behind the first HOUR, to a room in which 2 melt by it.
        Due.asks(x, "hearth(2)", 1, () -> x.hearth(2), 5, 2);
        x.sheet(2, 4, 20, 0);
        Due.asks(x, "hearth(2), of equal ones", 0, () -> x.hearth(2), 6, 2);
        x.stove(3);
        x.set(0, 4);
        Due.asks(x, "hearth(2), wherever it is", 0, () -> x.hearth(2), 6, 2);
        // By the stove in the room below, all the ICE of both is gone, as it is without it.
        Due.asks(x, "hearth(60)", 0, () -> x.hearth(60), 40, 40);
        x.set(0, 0);
        Due.asks(x, "hearth(60)", 0, () -> x.hearth(60), 40, 40);
        for (int n : new int[] {0, -1, 61, Integer.MIN_VALUE}) {
            Due.leaves(x, "hearth(" + n + ")", -1, () -> x.hearth(n));
        }
        Due.rule(x, "9-w");
        x.set(0, 9);
        Due.asks(x, "hearth(1), where warmth is good", 1, () -> x.hearth(1), 25, 34);
        LetByTheDegree n = new LetByTheDegree();
        n.water();
        Due.leaves(n, "hearth(1)", -2, () -> n.hearth(1));
        Due.leaves(n, "hearth(0)", -1, () -> n.hearth(0));
    }

    private static void rests() {
        Due.promise("33: rests");
        LetByTheDegree x = Due.of("10,4/6,8", "a1:405060;a1:222222;b2:900000");
        Due.asks(x, "rests(0, 1, 2)", 12, () -> x.rests(0, 1, 2), -1, 1);
        Due.asks(x, "rests(1, 0, 2)", 10, () -> x.rests(1, 0, 2), 1, -1);
        Due.asks(x, "rests(0, 1, 0)", 1, () -> x.rests(0, 1, 0), 0, 0);
        Due.asks(x, "rests(0, 1, 1)", 5, () -> x.rests(0, 1, 1), 0, 0);
        Due.asks(x, "rests(0, 1, 3)", 8, () -> x.rests(0, 1, 3), 0, 0);
        Due.asks(x, "rests(0, 1, 99)", 8, () -> x.rests(0, 1, 99), 96, 96);
        x.stove(0);
        // HEAT 5: 2, 4, 3, 5 melt.
        Due.asks(x, "rests(0, 1, 2)", 12, () -> x.rests(0, 1, 2), -3, -1);
        int[][] wrong = {{-1, 1, 2}, {0, -1, 2}, {3, 1, 2}, {0, 3, 2}, {0, 0, 2}, {2, 2, 2}, {0, 1, -1}, {0, 1, 100},
            {0, 2, 100}, {0, Integer.MAX_VALUE, 1}};
        for (int[] w : wrong) {
            Due.leaves(x, "rests(" + w[0] + ", " + w[1] + ", " + w[2] + ")", -1, () -> x.rests(w[0], w[1], w[2]));
        }
        Due.leaves(x, "rests(0, 2, 2)", -2, () -> x.rests(0, 2, 2));
        Due.leaves(x, "rests(2, 1, 2)", -2, () -> x.rests(2, 1, 2));
        LetByTheDegree y = Due.thin("0", "a1:111111;a1:111111");
        y.hour();
        Due.leaves(y, "rests(0, 1, 1), both OUT", -2, () -> y.rests(0, 1, 1));
    }

    private static void restsMore() {
        Due.promise("33: rests, others and ties");
        // By the others, as they are: 8 more.
        LetByTheDegree x = Due.of("50", "a1:600000;a1:200000;a1:800000");
        Due.asks(x, "rests(0, 1, 2)", 4, () -> x.rests(0, 1, 2), -5, -3);
        Due.rule(x, "n*(w=16)");
        // 3 melt by both; nothing else does.
        Due.asks(x, "rests(0, 1, 2)", 6, () -> x.rests(0, 1, 2), 2, 0);
        Due.asks(x, "rests(0, 1, 3)", 14, () -> x.rests(0, 1, 3), 3, 0);
        // 9 melt by neither and by both.
        Due.rule(x, "9*((w=16)+(w=8))");
        Due.asks(x, "rests(0, 1, 1)", 6, () -> x.rests(0, 1, 1), 1, 0);
        Due.rule(x, "9*(w=14)+5*(w=16)+2*(w=10)+7*(w=8)");
        Due.asks(x, "rests(0, 1, 4)", 8, () -> x.rests(0, 1, 4), -1, -1);
        LetByTheDegree y = Due.of("50", "a1:600000;a1:200000");
        Due.rule(y, "2*(w=6)+3*(w=8)+1*(w=0)");
        Due.asks(y, "rests(0, 1, 1)", 6, () -> y.rests(0, 1, 1), -1, -2);
        // One who is not warm in that HOUR is as warm as that all the same.
        LetByTheDegree z = Due.of("50", "a1:000000;a1:000000");
        Due.asks(z, "rests(0, 1, 1)", 8, () -> z.rests(0, 1, 1), 1, 1);
        Due.asks(z, "rests(0, 1, 0)", 15, () -> z.rests(0, 1, 0), 0, 0);
        // 0, 4, 1, 3 melt by neither, the first, the second, both; then 1, 5, 8, 12.
        LetByTheDegree w = Due.of("50", "a1:600000;a1:200000");
        Due.rule(w, "4*(w=6)+1*(w=2)+3*(w=8)+0*(w=0)");
        Due.asks(w, "rests(0, 1, 3)", 8, () -> w.rests(0, 1, 3), 0, 0);
        Due.rule(w, "5*(w=6)+(w=2)*8+(w=8)*12+(w=0)*1");
        Due.asks(w, "rests(0, 1, 4)", 3, () -> w.rests(0, 1, 4), -1, -1);
    }
}
