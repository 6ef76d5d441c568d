/** Promises 13 to 26 and 30 to 32: votes in many ways, and what the table itself tells. */
public final class VotingTest {
    private static final Due DUE = new Due();
    private static final int[] WRONG = {-1, 3, 9, 11, Integer.MIN_VALUE, Integer.MAX_VALUE};

    public static void main(String[] args) {
        nobody();
        firstsAndPoints();
        runOff();
        pairsAndPaths();
        set();
        agenda();
        orders();
        power();
        wonOver();
        lie();
        sure();
        left();
        parted();
        alike();
        DUE.finish();
    }

    private static void nobody() {
        TeaCabinet x = new TeaCabinet();
        DUE.is("firsts", x.firsts(10), 0);
        DUE.is("points", x.points(10), 0);
        DUE.is("run off", x.runOff(10), 0);
        DUE.is("out first", x.runOff(0), 3);
        DUE.is("best", x.best(), -2);
        DUE.is("set", x.set(), 15);
        DUE.is("widest", x.widest(0, 1), 0);
        DUE.is("path winners", x.pathWinners(), 15);
        DUE.is("orders: the first one stays", x.orders(2, 10), 6);
        DUE.is("least order", x.orders(2, 0) * 100 + x.orders(2, 1) * 10 + x.orders(2, 2), 201);
        DUE.is("sets with more than half of nothing", x.power(-1, 1), 0);
        DUE.is("least ones", x.power(-1, 2), 0);
        DUE.is("won over", x.wonOver(0, 0), -2);
        DUE.is("won over which", x.wonOver(0, 1), -2);
        DUE.is("sure", x.sure(0, 0), 1);
        DUE.is("may", x.sure(0, 1), 1);
        DUE.is("parted", x.parted(0) + x.parted(1), 0);
        DUE.is("parties", x.alike(100), 0);
    }

    private static void firstsAndPoints() {
        TeaCabinet x = Due.voters(3, new int[] {4, 7, 3, 0}, "c=b>a", "a=b=c", "c>a>b", "b>c>a");
        int[] firsts = {7, 4, 3};
        int[] points = {3, 4, 10};
        for (int i = 0; i < 3; i++) {
            DUE.is("firsts " + i, x.firsts(i), firsts[i]);
            DUE.is("points " + i, x.points(i), points[i]);
        }
        DUE.is("first of all", x.firsts(10), 0);
        DUE.is("most points", x.points(10), 2);
        for (int what : WRONG) {
            DUE.is("firsts " + what, x.firsts(what), -1);
            DUE.is("points " + what, x.points(what), -1);
            DUE.is("run off " + what, x.runOff(what), -1);
        }
        TeaCabinet like = Due.voters(2, new int[] {5, 5}, "b>a", "a>b");
        DUE.is("of like ones the first", like.firsts(10) + like.points(10), 0);
    }

    private static void runOff() {
        TeaCabinet x = Due.voters(4, new int[] {6, 5, 4, 2}, "a>b>c>d", "b>c>a>d", "c>d>b>a", "d>c>b>a");
        DUE.is("d goes out", x.runOff(0), 3);
        DUE.is("then b (5 against 6, 6)", x.runOff(1), 1);
        DUE.is("then a (6 against 11)", x.runOff(2), 0);
        DUE.is("c wins", x.runOff(10), 2);
        DUE.is("place 3", x.runOff(3), -1);
        TeaCabinet like = Due.voters(3, new int[] {5, 5, 5}, "a>b>c", "b>c>a", "c>b>a");
        DUE.is("of like ones the last", like.runOff(0), 2);
        DUE.is("then a", like.runOff(1), 0);
    }

    private static void pairsAndPaths() {
        TeaCabinet x = Due.voters(4, new int[] {9, 8, 7}, "a>b>c>d", "b>c>a>d", "c>a>b=d");
        DUE.is("a, b", x.pair(0, 1), 16);
        DUE.is("b, a", x.pair(1, 0), 8);
        DUE.is("b, d: like ones count for none", x.pair(1, 3), 17);
        DUE.is("d, b", x.pair(3, 1), 0);
        for (int i : WRONG) {
            if (i == 3) continue;
            DUE.is("pair", x.pair(0, i), -1);
            DUE.is("pair turned", x.pair(i, 0), -1);
            DUE.is("widest", x.widest(0, i), -1);
            DUE.is("widest turned", x.widest(i, 0), -1);
        }
        DUE.is("pair of one", x.pair(2, 2), -1);
        DUE.is("widest of one", x.widest(2, 2), -1);
        DUE.is("no best one", x.best(), -2);
        DUE.is("the set", x.set(), 7);
        DUE.is("straight", x.widest(0, 1), 16);
        DUE.is("b by c to a", x.widest(1, 0), 15);
        DUE.is("c by a to b", x.widest(2, 1), 15);
        DUE.is("d to a", x.widest(3, 0), 0);
        DUE.is("a to d", x.widest(0, 3), 24);
        DUE.is("path winners", x.pathWinners(), 1);
        TeaCabinet best = Due.voters(3, new int[] {2, 2, 1}, "a>c>b", "b>c>a", "c>a>b");
        DUE.is("c beats each", best.best(), 2);
        DUE.is("the set is it", best.set(), 4);
        DUE.is("it wins all paths", best.pathWinners(), 4);
        DUE.is("b reaches nobody", best.widest(1, 2), 0);
        TeaCabinet even = Due.voters(2, new int[] {2, 2}, "a>b", "b>a");
        DUE.is("neither", even.best(), -2);
        DUE.is("both", even.set(), 3);
        DUE.is("both win", even.pathWinners(), 3);
        DUE.is("no path", even.widest(0, 1), 0);
    }

    private static void set() {
        TeaCabinet x = Due.voters(6, new int[] {3, 2, 2}, "e>f>d>a>b>c", "f>d>e>b>c>a", "d>e>f>c>a>b");
        DUE.is("d, e, f in a ring", x.set(), 8 + 16 + 32);
        TeaCabinet tie = Due.voters(3, new int[] {2, 2}, "a>b>c", "b>a>c");
        DUE.is("a, b alike", tie.set(), 3);
        TeaCabinet chain = Due.voters(3, new int[] {1, 1}, "a>b>c", "b=c>a");
        DUE.is("ties join all", chain.set(), 7);
    }

    private static void agenda() {
        TeaCabinet x = Due.voters(3, new int[] {5, 4, 3}, "a>b>c", "b>c>a", "c>a>b");
        Object[][] due = {{"b", 1}, {"(ba)", 0}, {"((ab)c)", 2}, {"(a(bc))", 0}, {"((ab)(bc))", 0}, {"(c(ba))", 2},
            {"d", -1000}, {"(", -1001}, {"(a", -1002}, {"(ab", -1003}, {"(abc)", -1003}, {"a)", -1001}, {"(a b)", -1002},
            {"()", -1001}, {")", -1000}, {"(ab)c", -1004}, {"((((((((ab)c)a)b)c)a)b)c)", 2}, {"(((((((((a", -5008},
            {"(a(a(a(a(a(a(a(a(aa)))))))))", -5016}, {"(a(b(c(a(b(c(a(bc))))))))", 0}};
        for (Object[] d : due) DUE.is("agenda " + d[0], Due.agenda(x, (String) d[0]), (int) d[1]);
        TeaCabinet even = Due.voters(3, new int[] {1, 1}, "a>b>c", "b>a>c");
        DUE.is("neither: the left one", Due.agenda(even, "(ba)"), 1);
        DUE.is("the left one, turned", Due.agenda(even, "(ab)"), 0);
        Due.feed(x, "a".repeat(80));
        DUE.is("n 61", x.agenda(61), -1);
        DUE.is("n 0", x.agenda(0), -1);
        DUE.is("the tape stays", x.count(9), 80);
        DUE.is("n 60", x.agenda(60), -1001);
        DUE.is("empty then", x.count(9), 0);
        DUE.is("nothing there", x.agenda(1), -1);
    }

    private static void orders() {
        TeaCabinet x = Due.voters(4, new int[] {9, 8, 7}, "a>b>c>d", "b>c>a>d", "c>a>b=d");
        // a beats b, b beats c, c beats a, all beat d
        for (int i = 0; i < 3; i++) DUE.is("orders of " + i, x.orders(i, 10), 8);
        DUE.is("d never", x.orders(3, 10), 0);
        DUE.is("d: no row", x.orders(3, 0), -2);
        int[] ofC = {0, 1, 2, 3};
        for (int p = 0; p < 4; p++) DUE.is("c: place " + p, x.orders(2, p), ofC[p]);
        int[] ofA = {1, 2, 0, 3};
        for (int p = 0; p < 4; p++) DUE.is("a: place " + p, x.orders(0, p), ofA[p]);
        int[] ofB = {0, 2, 1, 3};
        for (int p = 0; p < 4; p++) DUE.is("b: place " + p, x.orders(1, p), ofB[p]);
        DUE.is("place 4", x.orders(0, 4), -1);
        DUE.is("place -1", x.orders(0, -1), -1);
        DUE.is("measure 4", x.orders(4, 10), -1);
        DUE.is("measure -1", x.orders(-1, 10), -1);
        TeaCabinet six = Due.voters(6, new int[] {1}, "f>e>d>c>b>a");
        DUE.is("all rows", six.orders(5, 10), 720);
        DUE.is("the least row of all", six.orders(5, 5), 5);
        DUE.is("no row", six.orders(0, 10), 0);
    }

    private static void power() {
        TeaCabinet x = Due.voters(2, new int[] {4, 3, 2, 1, 0}, "", "", "", "", "");
        int[] swings = {10, 6, 6, 2, 0};
        for (int g = 0; g < 5; g++) DUE.is("power of " + g, x.power(g, 0), swings[g]);
        DUE.is("more than half", x.power(-1, 1), 14);
        DUE.is("least ones", x.power(-1, 2), 3);
        DUE.is("untold", x.power(5, 0), -1);
        DUE.is("any, 0", x.power(-1, 0), -1);
        DUE.is("any, 3", x.power(-1, 3), -1);
        DUE.is("one, 1", x.power(0, 1), -1);
        DUE.is("one, 2", x.power(0, 2), -1);
        DUE.is("-2", x.power(-2, 1), -1);
        int[] twenty = new int[12];
        String[] none = new String[12];
        java.util.Arrays.fill(twenty, 20);
        java.util.Arrays.fill(none, "");
        TeaCabinet all = Due.voters(2, twenty, none);
        DUE.is("twelve like ones", all.power(3, 0), 462);
        DUE.is("seven or more", all.power(-1, 1), 792 + 495 + 220 + 66 + 12 + 1);
        DUE.is("just seven", all.power(-1, 2), 792);
        TeaCabinet half = Due.voters(2, new int[] {2, 1, 1}, "", "", "");
        DUE.is("half is not enough", half.power(-1, 1), 3);
    }

    private static void wonOver() {
        TeaCabinet x = Due.voters(3, new int[] {6, 5, 4, 4}, "a>b>c", "a>c>b", "b>a>c", "b=c>a");
        DUE.is("a wins already", x.wonOver(0, 0), 0);
        DUE.is("nobody", x.wonOver(0, 1), 0);
        DUE.is("b by one", x.wonOver(1, 0), 1);
        DUE.is("b by 0", x.wonOver(1, 1), 1);
        DUE.is("c by two", x.wonOver(2, 0), 2);
        DUE.is("c by 0 and 1", x.wonOver(2, 1), 3);
        DUE.is("what 2", x.wonOver(0, 2), -1);
        DUE.is("what -1", x.wonOver(0, -1), -1);
        DUE.is("measure 3", x.wonOver(3, 0), -1);
        DUE.is("measure -1", x.wonOver(-1, 0), -1);
        TeaCabinet even = Due.voters(2, new int[] {3, 3}, "a>b", "b>a");
        DUE.is("as many is not more", even.wonOver(0, 1), 2);
        TeaCabinet poor = Due.voters(2, new int[] {0, 0}, "a>b", "b>a");
        DUE.is("not by all", poor.wonOver(0, 0), -2);
        TeaCabinet far = new TeaCabinet();
        far.guest(2, 0, 5, 0, 0);
        far.guest(7, 1, 5, 0, 0);
        far.guest(9, 2, 5, 0, 0);
        DUE.is("of like ones the least bits", far.wonOver(1, 1), 1 << 2 | 1 << 7);
    }

    private static void lie() {
        TeaCabinet x = Due.voters(3, new int[] {5, 4, 3}, "a>b>c", "b>c>a", "c>a>b");
        DUE.is("1 lies for c", x.lie(1, 10), 2);
        int[] least = {2, 0, 1};
        for (int p = 0; p < 3; p++) DUE.is("place " + p, x.lie(1, p), least[p]);
        DUE.is("0 need not", x.lie(0, 10), 0);
        DUE.is("0: no row", x.lie(0, 0), -2);
        DUE.is("untold", x.lie(3, 10), -1);
        DUE.is("place 3", x.lie(0, 3), -1);
        DUE.is("place -1", x.lie(0, -1), -1);
        DUE.is("the ranking stays", x.guestIs(1, 11), 0);
        TeaCabinet alike = Due.voters(3, new int[] {5, 4}, "a>b>c", "a=b=c");
        DUE.is("all alike: nothing is higher", alike.lie(1, 10), 0);
        TeaCabinet six = Due.voters(6, new int[] {5}, "");
        DUE.is("M is 6", six.lie(0, 10), -3);
        DUE.is("M is 6, a place", six.lie(0, 5), -3);
        DUE.is("M is 6, untold", six.lie(1, 10), -1);
        DUE.is("M is 6, no such place", six.lie(0, 6), -1);
        TeaCabinet mild = Due.voters(5, new int[] {5, 4, 4}, "a=b>c>d>e", "c>b>a>d>e", "d>b>c>a>e");
        DUE.is("five measures", mild.runOff(10), 2);
        DUE.is("each row with b at first helps", mild.lie(0, 10), 24);
        int[] row = {1, 0, 2, 3, 4};
        for (int p = 0; p < 5; p++) DUE.is("five: place " + p, mild.lie(0, p), row[p]);
    }

    private static void sure() {
        TeaCabinet x = Due.voters(3, new int[] {5, 4, 3, 1}, "a>b>c", "b>c>a", "c>a>b", "c>b>a");
        DUE.is("none undecided: a", x.sure(0, 0), 1);
        DUE.is("none undecided: may", x.sure(0, 1), 1);
        DUE.is("3 undecided: a (5), b 5 at most", x.sure(8, 0), 1);
        DUE.is("2 undecided: none sure", x.sure(4, 0), 0);
        DUE.is("2 undecided: a, b; c has 4 at most", x.sure(4, 1), 3);
        DUE.is("0 undecided", x.sure(1, 1), 7);
        DUE.is("b, c alike: the first one", x.sure(0, 1), 1);
        DUE.is("untold", x.sure(16, 0), -1);
        DUE.is("-1", x.sure(-1, 0), -1);
        DUE.is("what 2", x.sure(0, 2), -1);
        DUE.is("what -1", x.sure(0, -1), -1);
        TeaCabinet many = new TeaCabinet();
        for (int g = 0; g < 8; g++) many.guest(g, g, 1, 1, 1);
        DUE.is("six", many.sure(63, 1), 15);
        DUE.is("seven", many.sure(127, 1), -1);
        TeaCabinet last = Due.voters(2, new int[] {3, 3}, "b>a", "b>a");
        DUE.is("as many for a would do", last.sure(1, 1), 3);
        TeaCabinet first = Due.voters(2, new int[] {3, 3}, "a>b", "a>b");
        DUE.is("as many for b won't", first.sure(1, 0), 1);
    }

    private static void left() {
        TeaCabinet x = new TeaCabinet();
        DUE.is("untold", x.left(0, 1), -1);
        x.guest(4, 11, 0, 0, 0);
        DUE.is("alone", x.left(4, 1), 4);
        x.guest(2, 0, 0, 0, 0);
        x.guest(9, 6, 0, 0, 0);
        DUE.is("of 11 the one of 0", x.left(4, 1), 2);
        DUE.is("second", x.left(4, 2), 9);
        DUE.is("round", x.left(4, 3), 4);
        DUE.is("round and round", x.left(4, 11), 9);
        DUE.is("twelve", x.left(9, 12), 9);
        DUE.is("n 0", x.left(4, 0), -1);
        DUE.is("n 13", x.left(4, 13), -1);
        DUE.is("n -1", x.left(4, -1), -1);
    }

    private static void parted() {
        TeaCabinet x = new TeaCabinet();
        x.guest(0, 0, 10, 0, 0);
        x.guest(1, 5, 4, 0, 0);
        x.guest(2, 6, 5, 0, 0);
        DUE.is("the seat", x.parted(0), 1);
        DUE.is("10 against 9", x.parted(1), 1);
        DUE.is("what 2", x.parted(2), -1);
        DUE.is("what -1", x.parted(-1), -1);
        x.guest(1, 11, 4, 0, 0);
        DUE.is("0 to 5 against 6 to 11: 10 and 9", x.parted(0), 0);
        x.guest(2, 8, 14, 0, 0);
        x.guest(3, 9, 2, 0, 0);
        // 3 to 8 and 9 to 2: 14 against 2 + 4 + 10
        DUE.is("3 to 8", x.parted(0), 3);
        DUE.is("14 against 16", x.parted(1), 2);
    }

    private static void alike() {
        TeaCabinet x = Due.voters(3, new int[] {1, 1, 1, 0, 1}, "a>b=c", "a>c=b", "c=b>a", "a=b=c", "");
        DUE.is("parties", x.alike(100), 3);
        DUE.is("of 0", x.alike(0), 3);
        DUE.is("of 1", x.alike(1), 3);
        DUE.is("of 2", x.alike(2), 4);
        DUE.is("of 4", x.alike(4), 24);
        DUE.is("untold", x.alike(5), -1);
        DUE.is("99", x.alike(99), -1);
        DUE.is("-1", x.alike(-1), -1);
    }
}
