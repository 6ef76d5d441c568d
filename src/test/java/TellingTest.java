/** Promises 1 to 8 and 33 to 37: what is told, the texts, what is kept and counted. */
public final class TellingTest {
    private static final Due DUE = new Due();

    public static void main(String[] args) {
        newObject();
        measures();
        guest();
        potAndMother();
        feed();
        law();
        lawDepth();
        ranking();
        seed();
        keepAndUndo();
        check();
        count();
        DUE.finish();
    }

    private static void newObject() {
        TeaCabinet x = new TeaCabinet();
        int[] first = {4, 0, -2, 0, 0, 0, 80, 12, 0, 0, 1, 0, -1};
        for (int what = 0; what < first.length; what++) DUE.is("new: count " + what, x.count(what), first[what]);
        DUE.is("new: nothing kept", x.undo(), false);
        DUE.is("new: no guest", x.guestIs(0, 0), -1);
    }

    private static void measures() {
        TeaCabinet x = Due.voters(3, new int[] {4, 2}, "c>b>a", "b=a>c");
        DUE.is("measures 1", x.measures(1), false);
        DUE.is("measures 7", x.measures(7), false);
        DUE.is("measures min", x.measures(Integer.MIN_VALUE), false);
        DUE.is("refused: M", x.count(0), 3);
        DUE.is("refused: ranking", x.guestIs(0, 10), 2);
        x.mother(0);
        x.teas(1);
        DUE.is("in force", x.count(3), 4);
        x.keep();
        DUE.is("measures 3 anew", x.measures(3), true);
        DUE.is("none in force", x.count(3), 0);
        DUE.is("all alike", x.guestIs(0, 10) + x.guestIs(0, 11) + x.guestIs(0, 12), 0);
        DUE.is("nothing kept", x.undo(), false);
        DUE.is("mother stays", x.count(2), 0);
        DUE.is("the tea stays", x.count(4), 1);
        DUE.is("measures 2", x.measures(2), true);
        DUE.is("no measure c", x.firsts(2), -1);
        DUE.is("measures 6", x.measures(6), true);
        DUE.is("measure f", x.firsts(5), 0);
    }

    private static void guest() {
        TeaCabinet x = new TeaCabinet();
        int[][] wrong = {{-1, 0, 0, 0, 0}, {12, 0, 0, 0, 0}, {0, -1, 0, 0, 0}, {0, 12, 0, 0, 0}, {0, 0, -1, 0, 0},
            {0, 0, 21, 0, 0}, {0, 0, 0, -1, 0}, {0, 0, 0, 100, 0}, {0, 0, 0, 0, -1}, {0, 0, 0, 0, 10}};
        for (int[] w : wrong) DUE.is("guest beyond bounds", x.guest(w[0], w[1], w[2], w[3], w[4]), false);
        DUE.is("nobody told", x.count(1), 0);
        DUE.is("guest 11 at the bounds", x.guest(11, 11, 20, 99, 9), true);
        DUE.is("guest 0 at the bounds", x.guest(0, 0, 0, 0, 0), true);
        DUE.is("a taken seat", x.guest(1, 11, 1, 1, 1), false);
        DUE.is("told", x.count(1), 1 << 11 | 1);
        x.mother(11);
        x.pot(99, 12);
        Due.rank(x, 11, "d>c>b>a");
        x.teas(3);
        DUE.is("poured", x.guestIs(11, 5), 3);
        DUE.is("burnt", x.guestIs(0, 4), 3);
        DUE.is("the own seat again", x.guest(11, 11, 7, 50, 3), true);
        int[] anew = {11, 7, 50, 3, 0, 0};
        for (int what = 0; what < 6; what++) DUE.is("anew: " + what, x.guestIs(11, what), anew[what]);
        DUE.is("anew: all alike", x.guestIs(11, 10), 0);
        DUE.is("still mother", x.count(2), 11);
        DUE.is("another seat", x.guest(11, 5, 7, 50, 3), true);
        DUE.is("the seat is free", x.guest(3, 11, 1, 1, 1), true);
    }

    private static void potAndMother() {
        TeaCabinet x = new TeaCabinet();
        DUE.is("pot -1", x.pot(-1, 1), false);
        DUE.is("pot 100", x.pot(100, 1), false);
        DUE.is("cups -1", x.pot(1, -1), false);
        DUE.is("cups 13", x.pot(1, 13), false);
        DUE.is("heat stays", x.count(6), 80);
        DUE.is("pot", x.pot(0, 0), true);
        DUE.is("heat", x.count(6), 0);
        DUE.is("cups", x.count(7), 0);
        DUE.is("pot at the bounds", x.pot(99, 12), true);
        DUE.is("mother untold", x.mother(3), false);
        DUE.is("mother -1", x.mother(-1), false);
        DUE.is("mother 12", x.mother(12), false);
        DUE.is("mother 35", x.mother(35), false);
        x.guest(3, 3, 3, 3, 3);
        DUE.is("mother told", x.mother(3), true);
        DUE.is("mother", x.count(2), 3);
        DUE.is("mother untold again", x.mother(4), false);
        DUE.is("mother stays", x.count(2), 3);
    }

    private static void feed() {
        TeaCabinet x = new TeaCabinet();
        x.guest(0, 0, 0, 0, 1);
        x.guest(3, 3, 0, 0, 4);
        x.guest(4, 4, 0, 0, 5);
        DUE.is("feed", x.feed(0x01000004, 0x05000000, 0, 0, 0xff000000), 20);
        DUE.is("highest byte first", x.check(12), -1);
        for (int k = 1; k <= 13; k++) DUE.is("feed " + k, x.feed(0, 0, 0, 0, 0), 20 * k);
        DUE.is("a full tape", x.feed(0, 0, 0, 0, 0), -1);
        DUE.is("a full tape stays", x.count(9), 260);
        DUE.is("too many bytes for a law", x.law(241), -1);
        DUE.is("the tape stays", x.count(9), 260);
        DUE.is("n 0", x.law(0), -1);
        DUE.is("n -5", x.law(-5), -1);
        DUE.is("a byte 0 is no law", x.law(240), -1000);
        DUE.is("empty then", x.count(9), 0);
        DUE.is("no law", x.count(8), 0);
    }

    private static void law() {
        TeaCabinet x = new TeaCabinet();
        DUE.is("a law", Due.law(x, "e5(1=1);k2(1=1);d1(g<3|m>2&!v=0);x(c=3)"), 4);
        DUE.is("a fault", Due.law(x, "e5(1=1"), -1006);
        DUE.is("the one before stays", x.count(8), 4);
        Object[][] faults = {{"", -1}, {" e5(1=1)", -1000}, {"e5 (1=1)", -1002}, {"e5(1=1) ", -1007}, {"e5(1=1)x", -1007},
            {"e5(1=1);;", -1008}, {"e5(1=1);", -1008}, {"e5(1)", -1004}, {"e5()", -1003}, {"e5(1=1|)", -1007},
            {"e5(1=1&)", -1007}, {"e5(!)", -1004}, {"e5(1==1)", -1005}, {"e5+(1=1)", -1003}, {"e-5(1=1)", -1001},
            {"e[5(1=1)", -1003}, {"e[5](1=1", -1008}, {"e[](1=1)", -1002}, {"e5]", -1002}, {"e5(1=1]", -1006},
            {"e5((1=1)=1)", -1008}, {"e(5)(1=1)", -1001}, {"e5(x=1)", -1003}, {"e5(1=k)", -1005}, {"x1=1", -1001},
            {"e123456(1=1)", -2006}, {"e12345(1=000001)", -2014}, {"e5(1=1<2)", -1006}, {"e5(!!1)", -1006},
            {"E5(1=1)", -1000}, {"e5(1=1)\u00e9", -1007}, {"e5*/2(1=1)", -1003}, {"e1<2(1=1)", -1002}};
        for (Object[] f : faults) DUE.is("law " + f[0], Due.law(x, (String) f[0]), (int) f[1]);
        DUE.is("sixteen rules", Due.law(x, "x(1=0);".repeat(15) + "x(1=0)"), 16);
        DUE.is("a seventeenth", Due.law(x, "x(1=0);".repeat(16) + "d("), -4112);
        DUE.is("no seventeenth", Due.law(x, "x(1=0);".repeat(16) + "m("), -1112);
        DUE.is("the end for it", Due.law(x, "x(1=0);".repeat(16)), -1112);
        String full = "e" + "1+".repeat(116) + "1(1=1)";
        DUE.is("239 bytes", full.length(), 239);
        DUE.is("a full text", Due.law(x, full.replace("(1=1)", "(10=1)")), 1);
        DUE.is("counted", x.count(8), 1);
        DUE.is("not so many", x.law(1), -1);
    }

    private static void lawDepth() {
        TeaCabinet x = new TeaCabinet();
        DUE.is("six (", Due.law(x, "x((((((1=1))))))"), 1);
        DUE.is("seven (", Due.law(x, "x(((((((1=1)))))))"), -5007);
        DUE.is("six [ ahead", Due.law(x, "e[[[[[[1]]]]]](1=1)"), 1);
        DUE.is("seven [ ahead", Due.law(x, "e[[[[[[[1]]]]]]](1=1)"), -5007);
        DUE.is("five [ in (", Due.law(x, "x([[[[[1]]]]]=1)"), 1);
        DUE.is("six [ in (", Due.law(x, "x([[[[[[1]]]]]]=1)"), -5007);
        DUE.is("five !", Due.law(x, "x(!!!!!1=1)"), 1);
        DUE.is("six !", Due.law(x, "x(!!!!!!1=1)"), -5007);
        DUE.is("! is open in its test", Due.law(x, "x(!!!!1=[[1]])"), -5009);
        DUE.is("! ends with its test", Due.law(x, "x(!!!!!1=1&!!!!!1=1|!!!!!1=1|(((((1=1))))))"), 1);
        DUE.is("! and ( both count", Due.law(x, "x(!(!(!(1=1))))"), -5007);
        DUE.is("! and ( both end", Due.law(x, "x(!(!(1=1))&[[[[[1]]]]]=1)"), 1);
    }

    private static void ranking() {
        TeaCabinet x = new TeaCabinet();
        DUE.is("untold", Due.rank(x, 0, "a>b>c>d"), -1);
        DUE.is("the tape stays", x.count(9), 20);
        x.guest(0, 0, 1, 1, 1);
        DUE.is("it was there", x.ranking(0, 7), 4);
        DUE.is("empty then", x.count(9), 0);
        DUE.is("like ones", Due.rank(x, 0, "d=b>c=a"), 2);
        int[] places = {2, 0, 2, 0};
        for (int i = 0; i < 4; i++) DUE.is("place " + i, x.guestIs(0, 10 + i), places[i]);
        Object[][] faults = {{"a>b>c>d>", -1007}, {"a>b", -1003}, {">a", -1000}, {"a>b>c>e", -1006}, {"aa", -1001},
            {"a>b>a>z", -6004}, {"a >b>c>d", -1001}, {"a>b>c>d ", -1007}, {"A>b>c>d", -1000}, {"a<b", -1001}};
        for (Object[] f : faults) DUE.is("ranking " + f[0], Due.rank(x, 0, (String) f[0]), (int) f[1]);
        DUE.is("the one before stays", x.guestIs(0, 11), 0);
        DUE.is("all alike", Due.rank(x, 0, "d=c=b=a"), 1);
        Due.feed(x, "a".repeat(60));
        DUE.is("n 41", x.ranking(0, 41), -1);
        DUE.is("n 0", x.ranking(0, 0), -1);
        DUE.is("guest 12", x.ranking(12, 1), -1);
        DUE.is("guest -1", x.ranking(-1, 1), -1);
        DUE.is("the tape stays", x.count(9), 60);
        DUE.is("n 40", x.ranking(0, 40), -1001);
        x.measures(6);
        DUE.is("six letters", Due.rank(x, 0, "f>e>d>c>b>a"), 6);
        DUE.is("a is last", x.guestIs(0, 10), 5);
    }

    private static void seed() {
        TeaCabinet x = new TeaCabinet();
        DUE.is("seed -1", x.seed(-1), false);
        DUE.is("seed 65536", x.seed(65536), false);
        DUE.is("X stays", x.count(10), 1);
        DUE.is("seed 65535", x.seed(65535), true);
        DUE.is("X", x.count(10), 65535);
        x.guest(0, 0, 0, 99, 0);
        x.mother(0);
        x.teas(1);
        DUE.is("X drawn", x.count(10), (25173L * 65535 + 13849) % 65536);
        DUE.is("seed 0", x.seed(0), true);
        x.teas(1);
        DUE.is("X drawn from 0", x.count(10), 13849);
    }

    private static void keepAndUndo() {
        TeaCabinet x = Due.voters(3, new int[] {4, 2}, "c>b>a", "b=a>c");
        DUE.is("nothing kept", x.undo(), false);
        x.pot(70, 9);
        Due.law(x, "d5(1=1);e1(1=1)");
        DUE.is("keep", x.keep(), 0);
        x.mother(1);
        x.teas(9);
        x.guest(5, 5, 5, 5, 5);
        x.guest(0, 9, 1, 1, 1);
        Due.rank(x, 1, "c>b=a");
        x.seed(77);
        x.pot(60, 8);
        Due.law(x, "e2(1=1)");
        x.feed(1, 2, 3, 4, 5);
        DUE.is("undo", x.undo(), true);
        int[] then = {3, 3, -2, 0, 0, 0, 60, 8, 1, 20, 1, 6};
        for (int what = 0; what < 12; what++) DUE.is("undone: count " + what, x.count(what), then[what]);
        DUE.is("undone: seat", x.guestIs(0, 0), 0);
        DUE.is("undone: poured", x.guestIs(1, 5), 0);
        DUE.is("undone: ranking", x.guestIs(1, 10), 0);
        DUE.is("undone: ranking of 0", x.guestIs(0, 10), 2);
        DUE.is("undone: the seat 9 is free", x.guest(6, 9, 0, 0, 0), true);
        DUE.is("undo once more", x.undo(), true);
        DUE.is("kept as it was", x.guestIs(6, 0), -1);
        x.mother(0);
        x.teas(2);
        DUE.is("keep anew", x.keep(), 2);
        x.teas(2);
        x.undo();
        DUE.is("as kept last", x.count(4), 2);
    }

    private static void check() {
        TeaCabinet x = new TeaCabinet();
        DUE.is("an empty tape", x.check(1), -2);
        DUE.is("n 0", x.check(0), -1);
        x.guest(0, 0, 0, 0, 7);
        x.guest(11, 1, 0, 0, 9);
        String manners = "\u0007" + "\u0000".repeat(10) + "\u0009";
        Due.feed(x, manners);
        DUE.is("n 13", x.check(13), -2);
        DUE.is("n -1", x.check(-1), -2);
        DUE.is("the tape stays", x.count(9), 20);
        DUE.is("right", x.check(12), -1);
        DUE.is("empty then", x.count(9), 0);
        Due.feed(x, manners.replace('\u0009', '\u0008'));
        DUE.is("the last is wrong", x.check(12), 11);
        Due.feed(x, "\u0007\u0001\u0001");
        DUE.is("an untold one is 0", x.check(3), 1);
        Due.feed(x, "\u0001\u0001");
        DUE.is("none asked", x.check(0), -1);
        DUE.is("empty then, too", x.count(9), 0);
    }

    private static void count() {
        TeaCabinet x = Due.voters(2, new int[] {4, 20, 0}, "", "", "");
        DUE.is("biscuits", x.count(11), 24);
        DUE.is("told", x.count(1), 7);
        DUE.is("M", x.count(0), 2);
        DUE.is("count -1", x.count(-1), -1);
        DUE.is("count 12", x.count(12), -1);
    }
}
