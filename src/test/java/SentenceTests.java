import java.io.IOException;
import java.nio.charset.StandardCharsets;
import java.nio.file.Files;
import java.nio.file.Path;
import java.util.List;
import java.util.regex.Matcher;
import java.util.regex.Pattern;
import java.util.stream.Stream;

/** What the promises say beside their edges, sentence by sentence; and whether each sentence of the document has a case. */
public final class SentenceTests {
    public static void main(String[] args) throws IOException {
        told();
        sheet();
        hours();
        winter();
        undo();
        drips();
        burden();
        share();
        charges();
        warm();
        look();
        carry();
        hearth();
        restsGets();
        restsWays();
        thaw();
        season();
        kept();
        count();
        everySentence();
        Due.end();
    }

    /** A house with FROST 0, PEOPLE and a rule. */
    private static LetByTheDegree house(String house, String people, String rule) {
        LetByTheDegree x = Due.thin(house, people);
        Due.rule(x, rule);
        return x;
    }

    // ---- the house, the people

    private static void told() {
        Edge.of(7, "Of a room, what 0: ICE, 1: WATER, 2: WARMTH in HOUR NOW, 3: what would MELT now, 4: PEOPLE in it "
            + "(bits), 5: 1 if THE STOVE is", 
            "of four unlike rooms, behind an HOUR");
        LetByTheDegree x = house("20,30/40,50", "a1:210000;b1:340000;b1:560000;b2:120000", "w*2");
        x.stove(3);
        // 4, 16, 10, 2 melt.
        Due.is("hour()", x.hour(), 32);
        Edge.room(x, 0, 16, 4, 1, 2, 1, 0);
        Edge.room(x, 1, 14, 16, 10, 14, 2 | 4, 0);
        Edge.room(x, 3, 30, 10, 5, 10, 0, 1);
        Edge.room(x, 4, 48, 2, 2, 4, 8, 0);

        Edge.of(8, "Of one of PEOPLE, what 0: the room (NONE: OUT), 1: OWES, 2: FELL, 3: WARM in HOUR NOW, 4: WARM of the "
            + "whole cycle", 
            "of four unlike ones, behind an HOUR");
        Edge.person(x, 0, 0, 2, 0, 1, 3);
        Edge.person(x, 1, 1, 3, 0, 4, 7);
        Edge.person(x, 2, 1, 5, 0, 6, 11);
        Edge.person(x, 3, 4, 1, 0, 2, 3);
    }

    private static void sheet() {
        Edge.of(11, "ICE of ROOMS as they are told, as a sheet tells it: bytes (kind 0), shorts (1), ints (2) of n entries "
            + "f, f + step, ..", 
            "the same f and step by each kind");
        // As bytes 124, 17, -90, 59; as shorts 380, 65297 - 65536, 64678 - 65536, 64059 - 65536.
        int[][] rooms = {{99, 17, 0, 59}, {99, 0, 0, 0}, {99, 99, 99, 99}};
        int[] sums = {175, 99, 396};
        for (int kind = 0; kind < 3; kind++) {
            LetByTheDegree x = Due.of("1,2/3,4", "");
            Due.is("sheet(" + kind + ", 4, 380, 64917)", x.sheet(kind, 4, 380, 64917), sums[kind]);
            for (int k = 0; k < 4; k++) {
                Edge.room(x, 3 * (k / 2) + k % 2, rooms[kind][k]);
            }
        }

        Edge.of(11, "-3: missing (all 0).", "behind a sheet that told of all; what is in the rooms stays");
        LetByTheDegree y = Due.of("1,2/3,4", "b2:999999");
        y.stove(1);
        y.hour();
        Due.is("sheet(2, 4, 9, 9)", y.sheet(2, 4, 9, 9), 90);
        Due.is("sheet(3, 4, 9, 9)", y.sheet(3, 4, 9, 9), -3);
        Edge.counts(y, 9, 1 | 2 | 8 | 16);
        Edge.room(y, 4, 0, 2, 9, 0, 1, 0);
        Edge.counts(y, 4, 1);
    }

    // ---- hours

    private static void hours() {
        Edge.of(15, "n HOURS (0 .. 60) go by: what melted in all;",
            "as much as HOUR by HOUR; what is ICE again and melts once more counts twice");
        LetByTheDegree x = Due.of("9,50/50,2", "a1:121212;b1:912345;b2:100000");
        LetByTheDegree twin = Due.of("9,50/50,2", "a1:121212;b1:912345;b2:100000");
        int sum = 0;
        for (int k = 0; k < 20; k++) {
            sum += twin.hour();
        }
        Due.is("hours(20)", x.hours(20), sum);
        LetByTheDegree y = Due.of("5", "a1:222222");
        Due.rule(y, "w");
        Due.is("hours(30)", y.hours(30), 60);
    }

    private static void winter() {
        Edge.of(17, "THE TEXT tells A WINTER", "each ACT is the call of its name");
        String[] acts = {"h", "h7", "m0b2", "sb1", "s-", "f7"};
        Edge.Call[] calls = {o -> o.hour(), o -> o.hours(7), o -> o.move(0, 4), o -> o.stove(1), o -> o.stove(-1), o -> o.set(1, 7)};
        for (int k = 0; k < acts.length; k++) {
            LetByTheDegree x = begun();
            LetByTheDegree twin = begun();
            Due.is("winter() of " + acts[k], Due.winter(x, acts[k]), 1);
            calls[k].on(twin);
            Due.is("whether " + acts[k] + " is as its call", Due.world(x).equals(Due.world(twin)), true);
        }

        Edge.of(17, "ACTS with ; between:", "one, two, three of them; another sign, none, two of them between");
        for (int n = 1; n <= 3; n++) {
            LetByTheDegree x = begun();
            Due.is("winter() of " + n, Due.winter(x, "h1;h2;h3".substring(0, 3 * n - 1)), n);
            Edge.counts(x, 8, 1 + n * (n + 1) / 2);
        }
        Edge.reads(Edge::busy, "winter()", "h1,h2", -3, LetByTheDegree::winter);
        Edge.reads(Edge::busy, "winter()", "h1h2", -3, LetByTheDegree::winter);
        Edge.reads(Edge::busy, "winter()", "h1;;h2", -4, LetByTheDegree::winter);
        Edge.reads(Edge::busy, "winter()", "h1; h2", -4, LetByTheDegree::winter);

        Edge.of(17, "they are done one by one, till one can't be",
            "the same ACTS in another order; what is behind one that can't be");
        LetByTheDegree y = house("90,90", "", "w");
        Due.is("winter()", Due.winter(y, "sa1;h2;sb1;h"), 4);
        Edge.room(y, 0, 80);
        Edge.room(y, 1, 85);
        Due.is("winter()", Due.winter(y, "h;sa1;h;sb1;sb1;sa1;h"), 4);
        Edge.room(y, 0, 75);
        Edge.room(y, 1, 80);
        Edge.counts(y, 4, 1, 5, 0, 1, 5);

        Edge.of(17, "the ROW: 1 if one could not be, else 0; what melted in all, how many FELL (each time)",
            "all done, all but the last, none; what melted and fell ahead of it counts");
        LetByTheDegree z = house("3,9", "a1:100000;a1:200000", "w");
        Due.is("winter()", Due.winter(z, "h;f1"), 2);
        Due.row(z, 0, 3, 2);
        Due.is("winter()", Due.winter(z, "m0b1;h;m1a2;h"), 2);
        Due.row(z, 1, 0, 0);
        Due.is("winter()", Due.winter(z, "m1a1;h;sc1"), 2);
        Due.row(z, 1, 0, 1);
        Due.is("winter()", Due.winter(z, "sc1;h"), 0);
        Due.row(z, 1, 0, 0);
    }

    private static LetByTheDegree begun() {
        LetByTheDegree x = Due.of("10,4/6,8", "a1:405060;b2:913000");
        x.stove(3);
        x.hour();
        return x;
    }

    private static void undo() {
        Edge.of(18, "The latest move(), stove(), hour(), hours(), pay(), winter()",
            "one of each, undone from the last to the first");
        LetByTheDegree x = house("9/8", "a1:405060", "w");
        Edge.Call[] calls = {o -> o.move(0, 3), o -> o.stove(3), o -> o.hour(), o -> o.hours(2), o -> o.pay(0, 1),
            o -> Due.winter(o, "m0a1;h2;f9")};
        String[] ahead = new String[6];
        for (int k = 0; k < 6; k++) {
            ahead[k] = Due.world(x) + x.water();
            Due.is("whether call " + k + " is done", calls[k].on(x) >= 0, true);
            Edge.counts(x, 10, k + 1);
        }
        for (int k = 5; k >= 0; k--) {
            x.undo();
            Due.is("whether all is as ahead of call " + k, (Due.world(x) + x.water()).equals(ahead[k]), true);
        }

        Edge.of(18, "is undone", "once, and then the one ahead of it; what is done again can be undone again");
        LetByTheDegree y = Due.of("9,9", "");
        y.stove(0);
        y.stove(1);
        y.undo();
        Edge.counts(y, 4, 0);
        y.stove(1);
        y.undo();
        Edge.counts(y, 4, 0);
        y.undo();
        Edge.counts(y, 4, -1);

        Edge.of(18, "how many are left that can be.", "of three: 2, 1, 0; sets, doings, sheets, kept ones don't count");
        LetByTheDegree z = Due.of("9,9", "a1:111111");
        z.hour();
        z.set(0, 3);
        z.doing(0, 0, 9);
        z.sheet(2, 2, 5, 0);
        z.keep(0);
        z.hour();
        z.water();
        z.hour();
        Due.is("undo()", z.undo(), 2);
        Due.is("undo()", z.undo(), 1);
        Due.is("undo()", z.undo(), 0);
        Edge.counts(z, 8, 0);
    }

    // ---- hours to come, who lives where

    private static void drips() {
        Edge.of(20, "In how many HOURS (1 .. 100) a room with ICE now has 0 first: how many; the ROW: the room (of several "
            + "the first)", 
            "each of nine rooms alone; two of nine at once");
        for (int r = 0; r < 9; r++) {
            LetByTheDegree x = house("9,9,9/9,9,9/9,9,9", "", "0");
            Due.people(x, "" + (char) ('a' + r % 3) + (r / 3 + 1) + ":111111");
            Due.rule(x, "w*2");
            Due.asks(x, "gives(), by room " + r, 5, () -> x.gives(), r, 1);
            Due.people(x, "" + (char) ('a' + (8 - r) % 3) + ((8 - r) / 3 + 1) + ":111111");
            int hours = r == 4 ? 3 : 5;
            Due.asks(x, "gives(), by rooms " + r + " and " + (8 - r), hours, () -> x.gives(), Math.min(r, 8 - r), 3);
        }

        Edge.of(21, "how much; the ROW: the room with the most ICE then", "then, and not now; as it freezes on below");
        LetByTheDegree y = Due.of("20,18/19,9", "a1:999999");
        y.set(1, 1);
        Due.asks(y, "drips(0)", 0, () -> y.drips(0), 0, 20);
        Due.asks(y, "drips(1)", 0, () -> y.drips(1), 3, 19);
        Due.asks(y, "drips(4)", 4, () -> y.drips(4), 3, 22);

        Edge.of(23, "how many; the ROW: the least row of ROOMS, by these PEOPLE (none without)", "by people, not by rooms");
        LetByTheDegree z = house("9,2,9", "b1:300000;c1:100000", "w");
        Due.asks(z, "lodge(1)", 4, () -> z.lodge(1), 0, 1);
        LetByTheDegree turned = house("2,9,9", "b1:300000;c1:100000", "w");
        Due.asks(turned, "lodge(1)", 4, () -> turned.lodge(1), 1, 0);

        Edge.of(24, "the most; the ROW: the least row of ROOMS by which it does.", "by people, not by rooms");
        // Room 2 with nobody in it and room 0 with the second one stand as long.
        LetByTheDegree v = house("4,9,3", "c1:300000;a1:100000", "w*(h=0)+(h>0)");
        Due.asks(v, "longest()", 3, () -> v.longest(), 1, 0);

        Edge.of(25, "how many; the ROW: 6 times one and HOUR of each, rising", "of two people, unlike HOURS");
        LetByTheDegree u = house("9,9", "a1:001000;b1:000010", "9*w");
        Due.asks(u, "quiet(6)", 2, () -> u.quiet(6), 2, 6 + 4);
    }

    private static void burden() {
        Edge.of(26, "the ROW: for how many HOURS, for how many as it is.",
            "of three, each of whom makes a difference; nobody is OUT behind it");
        // Of 12 by 6 in each HOUR; without each by 5, 4, 3: it stands 1 HOUR, else 2, 2, 3.
        LetByTheDegree x = house("12", "a1:111111;a1:222222;a1:333333", "w");
        Due.asks(x, "burden()", 2, () -> x.burden(), 3, 1);
        Edge.counts(x, 3, 0);
        LetByTheDegree y = house("13,9", "a1:333333;b1:222222", "w");
        Due.asks(y, "burden()", 0, () -> y.burden(), 4, 4);
        Due.asks(y, "burden() of two floors", 0, () -> y.burden(), 4, 4);
        y.sheet(2, 2, 13, 7);
        Due.asks(y, "burden()", 0, () -> y.burden(), 9, 4);
    }

    // ---- shares, who was warm

    private static void share() {
        Edge.of(27, "The part that one has in what MELTS in its room in HOUR NOW: what MELTS times its WARM by WARMTH",
            "in its own room; in the next HOUR; by THE STOVE");
        LetByTheDegree x = house("50,50", "a1:210000;a1:430000;b1:520000", "w*3");
        Due.asks(x, "share(0)", 0, () -> x.share(0), 6, 1);
        Due.asks(x, "share(1)", 0, () -> x.share(1), 12, 1);
        Due.asks(x, "share(2)", 0, () -> x.share(2), 15, 1);
        Due.rule(x, "7");
        Due.asks(x, "share(0) of 14 by 6", 0, () -> x.share(0), 7, 3);
        LetByTheDegree y = house("50,50", "a1:210000;a1:430000;b1:520000", "7");
        y.hour();
        Due.asks(y, "share(0) of 7 by 4", 0, () -> y.share(0), 7, 4);
        Due.asks(y, "share(1) of 21 by 4", 0, () -> y.share(1), 21, 4);
        y.stove(0);
        Due.asks(y, "share(1) of 21 by 9", 0, () -> y.share(1), 7, 3);
        Due.asks(y, "share(2) of 14 by 2", 0, () -> y.share(2), 7, 1);
    }

    private static void charges() {
        Edge.of(28, "The least that each of PEOPLE would OWE in n HOURS (0 .. 100) by PRICE 1 (as far as they are in ROOMS then): "
            + "the greatest of these; the ROW: by PEOPLE.", "of four: two who are in a room all the time, two who are OUT behind the first HOUR");
        LetByTheDegree x = house("9,0/2,9", "b2:123456;b1:654321;a2:200400;b1:999999", "w*(y=1)");
        x.sheet(2, 4, 99, 0);
        x.sheet(0, 3, 99, -49);
        // Room 3 has ICE 1, which melts in the first HOUR; room 4 has none; in room 1 nothing melts.
        Due.is("count(9)", x.count(9), 16);
        Due.asks(x, "charges(1)", 9, () -> x.charges(1), 1, 6, 2, 9);
        Due.asks(x, "charges(6)", 54, () -> x.charges(6), 1, 21, 2, 54);
    }

    private static void warm() {
        Edge.of(29, "Sets of PEOPLE that, were just these in a room in HOUR NOW, would MELT v (0 .. 99) there",
            "those who are elsewhere, too, and not those who are there; in the next HOUR");
        LetByTheDegree x = house("99,99", "a1:120000;b1:240000;b1:480000", "w*10+n");
        for (int set = 0; set < 8; set++) {
            int v = set * 10 + Integer.bitCount(set);
            for (int r = 0; r < 2; r++) {
                Due.is("warm(" + r + ", " + v + ")", x.warm(r, v), 1);
                Due.row(x, set, set);
            }
        }
        x.hour();
        Due.asks(x, "warm(0, 62) in HOUR 1", 1, () -> x.warm(0, 62), 3, 3);
        Due.asks(x, "warm(0, 32) in HOUR 1", 0, () -> x.warm(0, 32), -1, 0);
    }

    private static void look() {
        Edge.of(30, "The room to look at next: where the sets of PEOPLE that can be in it would MELT the most different "
            + "numbers in HOUR NOW", 
            "whoever is in it now; by THE STOVE; in the next HOUR");
        // 0, 1, 2, 3 in room 1, which has ICE for them; 0, 1 in room 0.
        LetByTheDegree x = house("1,9", "a1:100000;a1:200000", "w");
        Due.asks(x, "look()", 1, () -> x.look(), 4, 3);
        x.sheet(2, 2, 9, 0);
        Due.asks(x, "look() of equal ones", 0, () -> x.look(), 4, 3);
        // By HEAT 7 there are 7, 8, 9 and no more than ICE 9 in the room of THE STOVE.
        x.set(0, 7);
        x.stove(0);
        Due.asks(x, "look() by THE STOVE", 1, () -> x.look(), 4, 3);
        x.stove(1);
        Due.asks(x, "look() by THE STOVE", 0, () -> x.look(), 4, 3);
        x.hour();
        Due.asks(x, "look() in HOUR 1", 0, () -> x.look(), 1, 0);
    }

    // ---- the stove

    private static void carry() {
        Edge.of(31, "The way of THE STOVE, from where it is, each HOUR ahead of it to a room beside it",
            "ahead of the first HOUR, too; one room in each HOUR; HEAT as it is");
        LetByTheDegree x = house("90,90,0", "", "w");
        x.stove(0);
        Due.asks(x, "carry(1)", 5, () -> x.carry(1), 0);
        Due.asks(x, "carry(2)", 5, () -> x.carry(2), 1, 2);
        x.stove(1);
        Due.asks(x, "carry(1)", 0, () -> x.carry(1), 2);
        x.set(0, 3);
        x.stove(0);
        Due.asks(x, "carry(2), HEAT 3", 3, () -> x.carry(2), 1, 2);
        // In the third HOUR it is nowhere, as there is no floor in room 2.
        Due.asks(x, "carry(4), HEAT 3", 3, () -> x.carry(4), 1, 2, 9, 9);
    }

    private static void hearth() {
        Edge.of(32, "The room in which THE STOVE (HEAT as it is) melts the least in n HOURS",
            "by HEAT 2 in one room, by HEAT 9 in another");
        LetByTheDegree x = house("90,5,90", "", "(w>4)*(i>9)*9+w*(i<9)");
        x.set(0, 2);
        Due.asks(x, "hearth(1), HEAT 2", 0, () -> x.hearth(1), 0, 0);
        x.set(0, 9);
        Due.asks(x, "hearth(1), HEAT 9", 1, () -> x.hearth(1), 5, 0);
        x.set(0, 4);
        Due.asks(x, "hearth(1), HEAT 4", 0, () -> x.hearth(1), 0, 0);
        LetByTheDegree y = house("40,40,40", "a1:555555;b1:333333", "w*w/4");
        // 6 by 5 and 2 by 3 in each HOUR; by HEAT 5 more in room 0 19, in room 1 14, in room 2 6.
        Due.asks(y, "hearth(2)", 2, () -> y.hearth(2), 28, 16);
    }

    // ---- each as he likes

    private static void restsGets() {
        Edge.of(33, "Two unlike ones of PEOPLE that are in one room: each is as WARM as it is in HOUR NOW, or 0 (what "
            + "MELTS by all others as they are)", 
            "with a third one and THE STOVE in the room, and without; in the next HOUR");
        // What melts is 0 up to WARMTH 9, and 5 above.
        LetByTheDegree x = house("99,99", "a1:210000;a1:320000;a1:400000;b1:999999", "5*(w>9)");
        Due.asks(x, "rests(0, 1, 1)", 8, () -> x.rests(0, 1, 1), 1, 1);
        x.stove(0);
        // 9 without the two, 11, 12, 14 by the first, the second, both.
        Due.asks(x, "rests(0, 1, 1) by THE STOVE", 9, () -> x.rests(0, 1, 1), 0, 0);
        x.hour();
        // In HOUR 1 they are 5 without the two, 6, 7, 8 by them.
        Due.asks(x, "rests(0, 1, 1) in HOUR 1", 8, () -> x.rests(0, 1, 1), 1, 1);
        Due.leaves(x, "rests(0, 3, 1)", -2, () -> x.rests(0, 3, 1));
        Due.leaves(x, "rests(1, 1, 1)", -1, () -> x.rests(1, 1, 1));
    }

    private static void restsWays() {
        Edge.of(33, "Ways (bit 0: neither is, 1: the first, 2: the second, 3: both)",
            "each of the four alone, by what melts");
        int[][] melts = {{0, 9, 9, 18}, {9, 0, 18, 9}, {9, 18, 0, 9}, {18, 9, 9, 0}};
        int[][] gets = {{0, 0}, {1, 0}, {0, 1}, {1, 1}};
        for (int way = 0; way < 4; way++) {
            LetByTheDegree x = house("99", "a1:100000;a1:200000", "0");
            int[] m = melts[way];
            Due.rule(x, "(w<1)*" + m[0] + "+(w=1)*" + m[1] + "+(w=2)*" + m[2] + "+(w>2)*" + m[3]);
            int[] g = gets[way];
            Due.asks(x, "rests(0, 1, 1), way " + way, 1 << way, () -> x.rests(0, 1, 1), g[0], g[1]);
            Due.asks(x, "rests(1, 0, 1), way " + way, way == 1 ? 4 : way == 2 ? 2 : 1 << way, () -> x.rests(1, 0, 1), g[1], g[0]);
        }
    }

    // ---- water, thaws

    private static void thaw() {
        Edge.of(34, "All that there is: ICE, WATER, THE POND together", "whatever melts, drips and freezes, it is as much");
        LetByTheDegree w = Due.of("9,20/30,4", "a1:912345;b2:333333");
        w.stove(1);
        for (int k = 0; k < 30; k++) {
            Due.is("water() behind " + k, w.water(), 63);
            Due.is("its parts together", w.row(0) + w.row(1) + w.row(2), 63);
            w.hour();
        }

        Edge.of(35, "How likely it STANDS for n HOURS (1 .. 8), if in each FROST is 0 by p tenths (0 .. 10), else as it is",
            "a floor that gives by the second thaw, whenever it comes");
        // By FROST 3 of 3 that melt 3 are ICE again: each thaw costs 3 of 6.
        LetByTheDegree x = Due.of("6", "");
        x.set(1, 3);
        Due.rule(x, "3");
        Due.asks(x, "thaw(1, 3)", 0, () -> x.thaw(1, 3), 1, 1);
        Due.asks(x, "thaw(2, 3)", 0, () -> x.thaw(2, 3), 91, 100);
        // None in three HOURS, or one: 343 and 3 times 147 of 1000.
        Due.asks(x, "thaw(3, 3)", 0, () -> x.thaw(3, 3), 98, 125);
    }

    private static void season() {
        Edge.of(37, "ahead of each a DRAW of 10 is FROST, and of the number of PEOPLE and 3 tells who is WARM 9 in it",
            "of 0 .. 5 people, each in the house by itself, for 60 HOURS");
        for (int persons = 0; persons <= 5; persons++) {
            for (int p = 0; p < persons; p++) {
                LetByTheDegree x = house("99,99", Edge.lines(persons, "000000"), "(w=9)*(n=1)");
                x.move(p, 1);
                if (persons == 2) {
                    // The other one is alone, too, and counts as well.
                    Due.rule(x, "(w=9)*(n=1)*(f<0)");
                }
                Due.is("season(77, 60) of " + p + " of " + persons, x.season(77, 60), 0);
                Due.row(x, persons == 2 ? 0 : drawn(77, 60, persons, p), -1, 0);
            }
        }

        Edge.of(37, "A DRAW of n: R = R times 1103515245 + 12345",
            "each DRAW goes on from the one ahead of it: first FROST, then who");
        for (int seed : new int[] {3, -9, 123456789, -2000000000}) {
            LetByTheDegree x = Due.of("99", Edge.lines(3, "000000"));
            Due.rule(x, "f");
            Due.is("season(" + seed + ", 40)", x.season(seed, 40), 0);
            Due.row(x, frosts(seed, 40), -1, 0);
        }

        Edge.of(37, "NONE: another n.", "0, 61");
        Edge.leaves(Edge::busy, "season(1, 0)", -1, o -> o.season(1, 0));
        Edge.leaves(Edge::busy, "season(1, 61)", -1, o -> o.season(1, 61));
    }

    /** In how many HOURS the DRAWS tell that one of so many people is WARM 9; by longs, without their wrapping around. */
    private static int drawn(int seed, int hours, int persons, int p) {
        long r = seed & 0xffffffffL;
        int often = 0;
        for (int k = 0; k < hours; k++) {
            r = (r * 1103515245L + 12345) % 4294967296L;
            r = (r * 1103515245L + 12345) % 4294967296L;
            often += r / 65536 % (persons + 3) == p ? 1 : 0;
        }
        return often;
    }

    private static int frosts(int seed, int hours) {
        long r = seed & 0xffffffffL;
        int sum = 0;
        for (int k = 0; k < hours; k++) {
            r = (r * 1103515245L + 12345) % 4294967296L;
            sum += r / 65536 % 10;
            r = (r * 1103515245L + 12345) % 4294967296L;
        }
        return sum;
    }

    // ---- kept

    private static void kept() {
        Edge.of(38, "ICE, WATER, THE POND, where PEOPLE and THE STOVE are, OWES, FELL, NOW, FROST are kept under a number "
            + "0 .. 1: true.", 
            "each of them, changed since by a call of its own");
        Edge.Call[] calls = {o -> o.sheet(2, 4, 50, 1), o -> o.hours(3), o -> o.move(0, 4), o -> o.move(1, 0), o -> o.stove(-1),
            o -> o.stove(0), o -> o.pay(0, 1), o -> o.set(1, 8), o -> o.sheet(3, 0, 0, 0), o -> Due.winter(o, "f0;h9;m0a1;m1a1;h9")};
        for (int i = 0; i < 2; i++) {
            for (int k = 0; k < calls.length; k++) {
                LetByTheDegree x = begun();
                Due.is("keep(" + i + ")", x.keep(i), true);
                String ahead = Due.world(x) + x.water();
                calls[k].on(x);
                Due.is("whether call " + k + " changes it", (Due.world(x) + x.water()).equals(ahead), false);
                Due.is("again(" + i + ")", x.again(i), true);
                Due.is("whether all is as ahead of call " + k, (Due.world(x) + x.water()).equals(ahead), true);
            }
        }
    }

    private static void count() {
        Edge.of(40, "What 0: COLUMNS, 1: STOREYS, 2: PEOPLE, 3: those that are OUT (bits), 4: the room of THE STOVE (NONE), "
            + "5: HEAT, 6: FROST, 7: PRICE, 8: NOW, 9: ROOMS with ICE 0 (bits)", "all of them unlike, and each by the call that changes it");
        LetByTheDegree x = Due.thin("9,9,0/9,9,0", "a1:000000;a1:000000;c2:000000;c1:000000");
        x.hours(7);
        x.stove(4);
        x.set(0, 6);
        x.set(2, 8);
        Edge.counts(x, 0, 3, 2, 4, 4 | 8, 4, 6, 0, 8, 7, 4 | 32, 2, 3, 0);
        x.set(1, 9);
        Edge.counts(x, 6, 9);
        Due.house(x, "5/6/7");
        Edge.counts(x, 0, 1, 3, 0, 0, -1, 6, 9, 8, 0, 0, 0, 3, 0);
    }

    // ---- the document, whole

    /** What promises nothing that a case could be about, or has a test of its own: the interface, which FaceTests reads. */
    private static final String[] ASIDE = {
        "# LetByTheDegree ## What it is Let by the degree: .*? and winters drawn by a seed\\.",
        "; what later calls answer is free\\.",
        "## The public face ```java .*? ```",
        "## Terms 1\\. ROOMS:",
        "``` 2\\.",
        "```text",
        "Ahead of the calls [`a-z, ]+ the interface says: ---- ",
        "## Promise \\d+: [A-Za-z ]+ `[^`]*`:",
        "## Not promised .*",
    };

    private static void everySentence() throws IOException {
        Due.promise("each sentence of the document has a case that tells it");
        String doc = Files.readString(Path.of("../shared/DOC.md"), StandardCharsets.UTF_8).replaceAll("\\s+", " ");
        boolean[] told = new boolean[doc.length()];
        for (String aside : ASIDE) {
            Matcher m = Pattern.compile(aside).matcher(doc);
            while (m.find()) {
                mark(told, m.start(), m.end());
            }
        }
        for (String section : List.of("Terms", "the house, the people", "hours", "hours to come", "who lives where",
            "shares, who was warm", "the stove", "each as he likes", "water, thaws", "kept")) {
            int at = doc.indexOf("---- " + section);
            mark(told, Math.max(0, at), at < 0 ? 0 : at + 5 + section.length());
        }
        markCases(doc, told);
        for (int k = 0; k < told.length; k++) {
            if (!told[k] && Character.isLetterOrDigit(doc.charAt(k))) {
                int end = k;
                while (end < told.length && !told[end]) {
                    end++;
                }
                Due.wrong("no case tells \"" + doc.substring(k, end) + "\"");
                k = end;
            }
        }
    }

    private static void mark(boolean[] told, int from, int to) {
        for (int k = from; k < to; k++) {
            told[k] = true;
        }
    }

    /** Marks what the cases tell, each in the part of the document that it names. */
    private static void markCases(String doc, boolean[] told) throws IOException {
        Pattern cases = Pattern.compile("Edge\\.of\\((\\d+),\\s*((?:\"(?:[^\"\\\\]|\\\\.)*\"[\\s+]*)+),");
        try (Stream<Path> files = Files.list(Path.of("src/test/java"))) {
            for (Path file : files.toList()) {
                Matcher m = cases.matcher(Files.readString(file, StandardCharsets.UTF_8));
                while (m.find()) {
                    String words = m.group(2).strip().replaceAll("\"\\s*\\+\\s*\"", "").replaceAll("^\"|\"$", "");
                    int from = Edge.start(doc, Integer.parseInt(m.group(1)));
                    int to = Edge.stop(doc, Integer.parseInt(m.group(1)));
                    for (int at = doc.indexOf(words, from); at >= 0 && at < to; at = doc.indexOf(words, at + 1)) {
                        mark(told, at, at + words.length());
                    }
                }
            }
        }
    }
}
