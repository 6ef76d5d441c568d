/** The edges of TEAS, of the LAW at work, of cups and of who pours in the end: promises 9 to 12 and 27 to 29. */
public final class TeaEdgesTest {
    private static final int[] FAR = {Integer.MIN_VALUE, Integer.MIN_VALUE + 1, -1000, 1000, Integer.MAX_VALUE};
    private static final Due DUE = new Due();

    public static void main(String[] args) {
        numbersOfTeas();
        nobodyPours();
        theLastTeas();
        theLastTeaIsSpilt();
        boundsOfTried();
        boundsOfGuestIs();
        boundsOfLikes();
        boundsOfAmounts();
        lettersOfTheLaw();
        lettersWithoutAnAskedOne();
        seatsToTheLeft();
        reckonedWith32Bits();
        dividedByNothing();
        asMuchAsMatters();
        whomOneAsks();
        handsThatJustBear();
        mannersAtNothing();
        numbersOfCups();
        drawsAndTenths();
        spiltRoundTheTable();
        allInForce();
        whoIsNearest();
        whoDoesNotAsk();
        aloneAtTheTable();
        boundsOfCups();
        boundsOfWhere();
        whereRoundTheTable();
        boundsOfEnd();
        likeOnesInTheEnd();
        DUE.finish();
    }

    /** GUESTS 0 to n - 1 on SEATS from one on, round the table, each with 2 BISCUITS, HANDS 99 and MANNERS 5. */
    private static TeaCabinet table(int n, int seat) {
        TeaCabinet x = new TeaCabinet();
        for (int g = 0; g < n; g++) x.guest(g, (seat + g) % 12, 2, 99, 5);
        return x;
    }

    /** Tells a SEED by which the next DRAW is a number. */
    private static void seedFor(TeaCabinet x, int draw) {
        for (int seed = 0; seed < 65536; seed++) {
            if ((25173L * seed + 13849L) % 65536L % 10 != draw) continue;
            x.seed(seed);
            return;
        }
    }

    /** "TEAS (1 to 60; ..)", "NONE: no such n". */
    private static void numbersOfTeas() {
        TeaCabinet x = table(2, 0);
        x.mother(0);
        int[] wrong = {0, -1, 61, -60};
        for (int n : wrong) DUE.is("P9: " + n, x.teas(n), -1);
        for (int n : FAR) DUE.is("P9: " + n, x.teas(n), -1);
        DUE.is("P9: refused, THE TEA stays", x.count(4), 0);
        DUE.is("P9: refused, X stays", x.count(10), 1);
        int all = 0;
        int[] right = {1, 2, 59, 60};
        for (int n : right) {
            all += n;
            DUE.is("P9: " + n, x.teas(n), n);
            DUE.is("P9: THE TEA", x.count(4), all);
        }
    }

    /** "-2: there is no MOTHER"; what is no such number is NONE all the same. */
    private static void nobodyPours() {
        TeaCabinet x = table(2, 0);
        DUE.is("P9: teas", x.teas(1), -2);
        DUE.is("P9: sixty teas", x.teas(60), -2);
        DUE.is("P9: no such n", x.teas(61), -1);
        DUE.is("P9: nothing goes by", x.count(4), 0);
        DUE.is("P9: nothing is drawn", x.count(10), 1);
        for (int what = 0; what < 4; what++) DUE.is("P10: " + what, x.tried(1, what), -2);
        DUE.is("P10: MANNERS", x.tried(60, 11), -2);
        DUE.is("P10: MANNERS of nobody", x.tried(60, 12), -1);
        DUE.is("P10: no such what", x.tried(1, 4) == -1 && x.tried(1, 9) == -1 && x.tried(1, -1) == -1, true);
        DUE.is("P10: no such n", x.tried(61, 0), -1);
        DUE.is("P27: cup", x.cup(0), -3);
        DUE.is("P27: cup of nobody", x.cup(2), -1);
        DUE.is("P28: where", x.where(0), -3);
        DUE.is("P28: where of nobody", x.where(2), -1);
        for (int what = 0; what < 3; what++) DUE.is("P29: " + what, x.end(1, what), -2);
        DUE.is("P29: no such what", x.end(1, 3), -1);
        DUE.is("P29: no such n", x.end(61, 0), -1);
        DUE.is("a table without GUESTS", new TeaCabinet().teas(1), -2);
    }

    /** "THE TEA is one more in any way (9999 at most: then none goes by)", "as many as can". */
    private static void theLastTeas() {
        TeaCabinet x = table(2, 0);
        x.mother(0);
        for (int i = 0; i < 166; i++) x.teas(60);
        DUE.is("P9: 38 more", x.teas(38), 38);
        DUE.is("P9: THE TEA but one", x.count(4), 9998);
        x.keep();
        Due.law(x, "k20(1=1)");
        x.pot(99, 12);
        x.guest(1, 1, 2, 98, 5);
        DUE.is("P10: one of sixty is tried", x.tried(60, 3), 1);
        DUE.is("P10: MANNERS after one", x.tried(60, 11), 4);
        DUE.is("P29: one of sixty", x.end(60, 1), 1);
        DUE.is("P29: who", x.end(60, 0), 0);
        DUE.is("P29: decides", x.end(60, 2), 1);
        DUE.is("P9: one of two", x.teas(2), 1);
        DUE.is("P9: THE TEA", x.count(4), 9999);
        int drawn = x.count(10);
        int inForce = x.count(3);
        DUE.is("P9: none of one", x.teas(1), 0);
        DUE.is("P9: none of sixty", x.teas(60), 0);
        DUE.is("P9: no such n", x.teas(61), -1);
        DUE.is("P9: THE TEA stays", x.count(4), 9999);
        DUE.is("P9: X stays", x.count(10), drawn);
        DUE.is("P9: in force as it was", x.count(3), inForce);
        DUE.is("P9: nobody is burnt", x.guestIs(1, 4), 1);
        DUE.is("P9: POURED stays", x.guestIs(0, 5), 9999);
        DUE.is("P10: MOTHER then", x.tried(60, 0), 0);
        DUE.is("P10: in force then", x.tried(60, 1), inForce);
        DUE.is("P10: none spilt", x.tried(60, 2), 0);
        DUE.is("P10: none burnt", x.tried(60, 3), 0);
        DUE.is("P10: MANNERS then", x.tried(60, 11), 4);
        DUE.is("P29: no TEA goes any more: who", x.end(60, 0), -2);
        DUE.is("P29: no TEA goes any more: how often", x.end(60, 1), 0);
        DUE.is("P29: no TEA goes any more: decides", x.end(60, 2), 0);
        Due.law(x, "et(1=1)");
        DUE.is("t is 9999", x.likes(0, 1), 9999);
        DUE.is("P34: 9999 is KEPT", x.keep(), 9999);
    }

    /** "in any way": spilt ones count, too, and come to an end as well. */
    private static void theLastTeaIsSpilt() {
        TeaCabinet x = table(2, 0);
        x.mother(0);
        Due.law(x, "d10(1=1)");
        for (int i = 0; i < 166; i++) x.teas(60);
        DUE.is("P9: as many as can", x.teas(60), 39);
        DUE.is("P9: all are spilt", x.count(5), 9999);
        DUE.is("P9: THE TEA", x.count(4), 9999);
        DUE.is("P9: MOTHER after so many", x.count(2), 1);
        DUE.is("P9: none is spilt any more", x.teas(1), 0);
        DUE.is("P9: SPILT stays", x.count(5), 9999);
        DUE.is("P9: MOTHER stays", x.count(2), 1);
        DUE.is("P11: nobody POURED", x.guestIs(0, 5) + x.guestIs(1, 5), 0);
    }

    private static void boundsOfTried() {
        TeaCabinet x = table(2, 0);
        x.guest(11, 11, 1, 0, 9);
        x.mother(0);
        int[] wrong = {0, -1, 61};
        for (int n : wrong) DUE.is("P10: n " + n, x.tried(n, 0), -1);
        for (int n : FAR) DUE.is("P10: n " + n, x.tried(n, 0), -1);
        int[] whats = {-1, 4, 5, 9, 12, 20, 22, 23, 42};
        for (int what : whats) DUE.is("P10: what " + what, x.tried(1, what), -1);
        for (int what : FAR) DUE.is("P10: what " + what, x.tried(1, what), -1);
        DUE.is("P10: MANNERS of 0", x.tried(1, 10), 5);
        DUE.is("P10: MANNERS of 11", x.tried(1, 21), 8);
        DUE.is("P10: MANNERS 0 at least", x.tried(60, 21), 0);
        DUE.is("P10: each burn counts", x.tried(60, 3), 60);
        x.teas(10);
        DUE.is("P10: burns in them, not ahead", x.tried(1, 3), 1);
        x.guest(0, 0, 1, 0, 9);
        DUE.is("P10: burns of each GUEST", x.tried(2, 3), 4);
        Due.law(x, "d10(1=1)");
        x.teas(4);
        DUE.is("P10: SPILT in them, not ahead", x.tried(2, 2), 2);
        DUE.is("P10: nothing is changed", x.count(4) * 100 + x.count(5), 1404);
    }

    private static void boundsOfGuestIs() {
        for (int m = 2; m <= 6; m++) {
            TeaCabinet x = new TeaCabinet();
            x.measures(m);
            x.guest(0, 0, 1, 1, 1);
            x.guest(11, 11, 1, 1, 1);
            int[] whats = {-1, 7, 8, 9, 10 + m, 16, 17, 21};
            for (int what : whats) DUE.is("P11: what " + what + " of " + m, x.guestIs(0, what), -1);
            for (int what : FAR) DUE.is("P11: what " + what, x.guestIs(0, what), -1);
            DUE.is("P11: the last MEASURE of " + m, x.guestIs(11, 9 + m), 0);
            int[] untold = {-1, 1, 10, 12, 32};
            for (int g : untold) DUE.is("P11: guest " + g, x.guestIs(g, 0), -1);
            for (int g : FAR) DUE.is("P11: guest " + g, x.guestIs(g, 0), -1);
        }
        TeaCabinet x = Due.voters(6, new int[] {1, 1}, "f=a>e=b>d=c", "a>f=e=d=c=b");
        int[] places = {0, 2, 4, 4, 2, 0};
        for (int i = 0; i < 6; i++) DUE.is("P11: the place of the first of like ones", x.guestIs(0, 10 + i), places[i]);
        for (int i = 1; i < 6; i++) DUE.is("P11: behind one", x.guestIs(1, 10 + i), 1);
    }

    private static void boundsOfLikes() {
        TeaCabinet x = table(2, 0);
        Due.law(x, "e7(1=1)");
        DUE.is("P12: another told one", x.likes(0, 1), 7);
        int[] wrong = {-1, 0, 2, 12, 32};
        for (int c : wrong) DUE.is("P12: 0 for " + c, x.likes(0, c), -1);
        for (int g : wrong) DUE.is("P12: " + g + " for 0", x.likes(g, 0), -1);
        for (int c : FAR) DUE.is("P12: " + c, x.likes(0, c) == -1 && x.likes(c, 0) == -1, true);
        Due.law(x, "e7(1=1);x(g=0)");
        DUE.is("P12: 0 if x", x.likes(0, 1), 0);
        DUE.is("P12: no x", x.likes(1, 0), 7);
        Due.law(x, "x(g=0);e7(1=1);x(g=2)");
        DUE.is("P12: an x ahead of e", x.likes(0, 1), 0);
        DUE.is("P12: any x will do, none does", x.likes(1, 0), 7);
    }

    /** "(beyond its bounds the bound; none: 0)" of e (0 to 9999), k (0 to 20) and d (0 to 10). */
    private static void boundsOfAmounts() {
        Object[][] likes = {{"e9998(1=1)", 9998}, {"e9999(1=1)", 9999}, {"e10000(1=1)", 9999}, {"e99999(1=1)", 9999},
            {"e0-1(1=1)", 0}, {"e0(1=1)", 0}, {"e1(1=1)", 1}, {"e1(1=2)", 0}, {"k5(1=1)", 0}, {"e0-9(1=1);e5(1=1)", 0}};
        for (Object[] l : likes) {
            TeaCabinet x = table(2, 0);
            DUE.is("a right law", Due.law(x, (String) l[0]) > 0, true);
            DUE.is("e: " + l[0], x.likes(0, 1), (int) l[1]);
        }
        Object[][] cools = {{"k19(1=1)", 61}, {"k20(1=1)", 60}, {"k21(1=1)", 60}, {"k99999(1=1)", 60}, {"k0-1(1=1)", 80},
            {"k0(1=1)", 80}, {"k1(1=1)", 79}, {"k1(1=2)", 80}, {"e9(1=1)", 80}};
        for (Object[] c : cools) {
            TeaCabinet x = table(2, 0);
            x.mother(0);
            Due.law(x, (String) c[0]);
            DUE.is("k: " + c[0], x.cup(0), (int) c[1]);
            DUE.is("k: the first cup", x.cup(1), 80);
        }
        Object[][] spills = {{"d10(1=1)", 60}, {"d11(1=1)", 60}, {"d99999(1=1)", 60}, {"d0-1(1=1)", 0}, {"d0(1=1)", 0},
            {"d9(1=2)", 0}, {"k9(1=1)", 0}};
        for (Object[] s : spills) {
            TeaCabinet x = table(2, 0);
            x.mother(0);
            Due.law(x, (String) s[0]);
            DUE.is("d: " + s[0], x.tried(60, 2), (int) s[1]);
        }
    }

    /** What each letter is in e and x: "of c". */
    private static void lettersOfTheLaw() {
        TeaCabinet x = new TeaCabinet();
        x.guest(2, 11, 20, 99, 9);
        x.guest(5, 0, 3, 99, 4);
        Due.rank(x, 2, "a>b=c>d");
        Due.rank(x, 5, "a=b>d>c");
        x.mother(5);
        x.teas(3);
        Object[][] due = {{"g", 2, 5}, {"c", 5, 2}, {"l", 1, 11}, {"a", 3, 3}, {"b", 3, 20}, {"m", 4, 9}, {"v", 3, 0}, {"t", 3, 3}};
        for (Object[] d : due) {
            Due.law(x, "e" + d[0] + "(1=1)");
            DUE.is("P12: " + d[0] + " of 2 for 5", x.likes(2, 5), (int) d[1]);
            DUE.is("P12: " + d[0] + " of 5 for 2", x.likes(5, 2), (int) d[2]);
            Due.law(x, "e1(1=1);x(" + d[0] + "=" + d[1] + ")");
            DUE.is("x: " + d[0], x.likes(2, 5), 0);
        }
        Due.rank(x, 5, "a=b=c=d");
        Due.law(x, "ea(1=1)");
        DUE.is("like ones are not ranked alike", x.likes(2, 5), 0);
        Due.rank(x, 2, "a=b=c=d");
        DUE.is("nor if both have them alike", x.likes(2, 5), 0);
        x.measures(6);
        Due.rank(x, 2, "f>e>d>c>b>a");
        Due.rank(x, 5, "f>e>d>c>b>a");
        DUE.is("fifteen twos of six", x.likes(2, 5), 15);
        Due.rank(x, 5, "a>b>c>d>e>f");
        DUE.is("none if all is turned", x.likes(2, 5), 0);
    }

    /** "(Where they are not told they are 0: c, l, a in k, d.)"; b, m, v "in k, d of g". */
    private static void lettersWithoutAnAskedOne() {
        TeaCabinet x = new TeaCabinet();
        x.guest(7, 11, 11, 99, 6);
        x.guest(9, 0, 3, 99, 4);
        Due.rank(x, 7, "a>b>c>d");
        Due.rank(x, 9, "a>b>c>d");
        x.mother(7);
        x.teas(5);
        Object[][] due = {{"g", 7}, {"c", 0}, {"l", 0}, {"a", 0}, {"b", 11}, {"m", 6}, {"v", 5}, {"t", 5}};
        for (Object[] d : due) {
            Due.law(x, "k" + d[0] + "(1=1);d10(" + d[0] + "=" + d[1] + ");d0(1=1)");
            DUE.is("k: " + d[0], 80 - x.cup(7), (int) d[1]);
            DUE.is("d: " + d[0], x.tried(1, 2), 1);
            Due.law(x, "k1(" + d[0] + "=" + d[1] + ");k0(1=1);d10(!" + d[0] + "=" + d[1] + ")");
            DUE.is("C of k: " + d[0], x.cup(7), 79);
            DUE.is("C of d: " + d[0], x.tried(1, 2), 0);
        }
    }

    /** "how many SEATS c is to the left of g (1 to 11)", "of 11 the one of 0". */
    private static void seatsToTheLeft() {
        TeaCabinet x = table(12, 5);
        Due.law(x, "el(1=1)");
        for (int g = 0; g < 12; g++) {
            for (int c = 0; c < 12; c++) {
                if (g != c) DUE.is("l of " + g + " for " + c, x.likes(g, c), (c - g + 12) % 12);
            }
        }
    }

    /** "All is reckoned with 32 bits, as the machine does", "from the left on". */
    private static void reckonedWith32Bits() {
        String least = "[32768*65536]";
        String most = "[32768*65536-1]";
        Object[][] holds = {{least + "<0", true}, {most + ">0", true}, {most + "+1=" + least, true}, {least + "-1=" + most, true},
            {"0-" + least + "=" + least, true}, {least + "/[0-1]=" + least, true}, {least + "%[0-1]=0", true},
            {least + "*[0-1]=" + least, true}, {"65536*65536=0", true}, {"65536*65537=65536", true}, {"[0-7]/2=0-3", true},
            {"[0-7]%2=0-1", true}, {"7%[0-2]=1", true}, {"7/[0-2]=0-3", true}, {"9-3-2=4", true}, {"9-[3-2]=8", true},
            {"24/4/2=3", true}, {"24/[4/2]=12", true}, {"2*7%4=2", true}, {"7%4*2=6", true}, {"7/2*2=6", true}, {"2+3*4=14", true},
            {"2*3+4=10", true}, {"2-3*4+1=0-9", true}, {"1<1", false}, {"1>1", false}, {"1<2", true}, {"2>1", true}, {"2<1", false},
            {least + "<" + most, true}, {most + ">" + least, true}, {"99999*99999>0", true}, {"0/5=0", true}, {"0%5=0", true}};
        TeaCabinet x = table(2, 0);
        for (Object[] h : holds) {
            DUE.is("a right law of " + h[0], Due.law(x, "e1(" + h[0] + ")"), 1);
            DUE.is("" + h[0], x.likes(0, 1), (boolean) h[1] ? 1 : 0);
        }
        Due.law(x, "e" + most + "+1(1=1)");
        DUE.is("E below its bounds by a wrap-around", x.likes(0, 1), 0);
        Due.law(x, "e" + least + "-1(1=1)");
        DUE.is("E above its bounds by a wrap-around", x.likes(0, 1), 9999);
    }

    /** "what is divided by 0 is REFUSED: then a C does not hold, an E is 0." */
    private static void dividedByNothing() {
        Object[][] due = {{"e5/0(1=1)", 0}, {"e5%0(1=1)", 0}, {"e0/0(1=1)", 0}, {"e7+5/0(1=1)", 0}, {"e5/0+7(1=1)", 0},
            {"e7+[5/0](1=1)", 0}, {"e7-5%[1-1]*2(1=1)", 0}, {"e5/0(1=1);e3(1=1)", 0}, {"e5(1/0=0);e3(1=1)", 3},
            {"e5(1%0=0);e3(1=1)", 3}, {"e5(0=1/0);e3(1=1)", 3}, {"e5(1/0<1);e3(1=1)", 3}, {"e5(!1/0=1);e3(1=1)", 3},
            {"e5(!(1/0=1));e3(1=1)", 3}, {"e5(!!1/0=1);e3(1=1)", 3}, {"e5((1/0=1)|1=1);e3(1=1)", 3},
            {"e5(1=1&1/0=0);e3(1=1)", 3}, {"e5(1=1&!1/0=0);e3(1=1)", 3}, {"e5(1=2|1/0=0);e3(1=1)", 3},
            {"e5(1=2|!1/0=0);e3(1=1)", 3}, {"e3(1=1);x(1/0=0)", 3}, {"e3(1=1);x(!1/0=0)", 3}, {"e3(1=1);x(1/0=0);x(1=1)", 0},
            {"e5/[c-1](1=1)", 0}, {"e5/c(1=1)", 5}, {"e8/[1-c](1=1)", 0}};
        TeaCabinet x = table(2, 0);
        for (Object[] d : due) {
            DUE.is("a right law", Due.law(x, (String) d[0]) > 0, true);
            DUE.is("P12: " + d[0], x.likes(0, 1), (int) d[1]);
        }
        x.mother(0);
        Due.law(x, "k5/g(1=1);d10/g(1=1)");
        DUE.is("a REFUSED k is 0", x.cup(0), 80);
        DUE.is("a REFUSED d is 0", x.tried(60, 2), 0);
        Due.law(x, "k5(1/g=0);k7(1=1);d10(1/g=0)");
        DUE.is("a REFUSED C of k does not hold", x.cup(0), 73);
        DUE.is("a REFUSED C of d does not hold", x.tried(60, 2), 0);
    }

    /** "Of a C as much is asked, from the left, as matters": what is not asked is not REFUSED. */
    private static void asMuchAsMatters() {
        Object[][] due = {{"1=1|1/0=0", true}, {"1=2&1/0=0|1=1", true}, {"1=2&1/0=0", false}, {"!(1=2&1/0=0)", true},
            {"!(1=1|1/0=0)", false}, {"(1=1|1/0=0)&2=2", true}, {"1=2&(1/0=0|1=1)|3=3", true}, {"1=1|1=1&1/0=0", true},
            {"1=2&1=1&1/0=0|4=4", true}, {"1=2|1=1|1/0=0", true}, {"1=1&1=1|1/0=0", true}, {"1=2|1=1&1/0=0", false},
            {"!1=1&1/0=0|1=1", true}, {"!1=2|1/0=0", true}, {"1/0=0|1=1", false}, {"1=1&1/0=0|1=1", false},
            {"1=2&!1/0=0|!1=2", true}, {"(1=2|2=2)|[1/0]=0", true}, {"(1=1&2=2)&(3=3|1/0=0)", true}};
        TeaCabinet x = table(2, 0);
        for (Object[] d : due) {
            DUE.is("a right law", Due.law(x, "e1(" + d[0] + ")"), 1);
            DUE.is("C: " + d[0], x.likes(0, 1), (boolean) d[1] ? 1 : 0);
        }
        Due.law(x, "e4(1=1);e5/0(1/0=0);e6(1=1)");
        DUE.is("RULES behind the first one that holds", x.likes(0, 1), 4);
    }

    /** "the other told GUEST with the greatest e above 0 that one asks (x aside; of like ones the lowest); nobody ..". */
    private static void whomOneAsks() {
        TeaCabinet x = table(4, 0);
        Object[][] due = {{"e0(1=1)", 0, -2}, {"e1(1=1)", 0, 1}, {"e1(1=1)", 1, 0}, {"ec(1=1)", 0, 3}, {"ec(1=1)", 3, 2},
            {"e9999(1=1)", 2, 0}, {"e9999+c(1=1)", 0, 1}, {"e5-c(1=1);x(c=0)", 2, 1}, {"e1(1=1);x(1=1)", 0, -2},
            {"e1(1=1);x(c<3)", 0, 3}, {"e1(1=1);x(c<3)", 3, -2}, {"e0-c(1=1)", 3, -2}, {"e1(c=3)", 3, -2}, {"e1(c=9)", 0, -2}};
        for (Object[] d : due) {
            Due.law(x, (String) d[0]);
            DUE.is("P11: whom " + d[1] + " asks by " + d[0], x.guestIs((int) d[1], 6), (int) d[2]);
        }
        TeaCabinet alone = table(1, 0);
        Due.law(alone, "e9(1=1)");
        DUE.is("P11: alone", alone.guestIs(0, 6), -2);
    }

    /** "whose HANDS bear less is BURNT": as hot as they bear is no burn. */
    private static void handsThatJustBear() {
        int[][] due = {{80, 79, 1}, {80, 80, 0}, {80, 81, 0}, {0, 0, 0}, {1, 0, 1}, {99, 98, 1}, {99, 99, 0}, {99, 0, 1}};
        for (int[] d : due) {
            TeaCabinet x = new TeaCabinet();
            x.guest(0, 0, 1, d[1], 5);
            x.pot(d[0], 12);
            x.mother(0);
            x.teas(1);
            DUE.is("BURNT by " + d[0] + " with " + d[1], x.guestIs(0, 4), d[2]);
            DUE.is("MANNERS", x.guestIs(0, 3), 5 - d[2]);
        }
    }

    /** "MANNERS are less by 1 (0 at least)". */
    private static void mannersAtNothing() {
        TeaCabinet x = new TeaCabinet();
        x.guest(0, 0, 1, 0, 2);
        x.mother(0);
        int[] due = {1, 0, 0, 0};
        for (int i = 0; i < 4; i++) {
            DUE.is("P10: MANNERS after " + (i + 1), x.tried(i + 1, 10), due[i]);
        }
        for (int i = 0; i < 4; i++) {
            x.teas(1);
            DUE.is("MANNERS after " + (i + 1), x.guestIs(0, 3), due[i]);
            DUE.is("BURNT all the same", x.guestIs(0, 4), i + 1);
        }
    }

    /** "as many as there are CUPS: the first is as hot as HEAT, each further one less by k (.. 0 at least)". */
    private static void numbersOfCups() {
        for (int cups = 0; cups <= 12; cups++) {
            TeaCabinet x = table(12, 3);
            x.mother(0);
            Due.law(x, "k9(1=1)");
            x.pot(80, cups);
            for (int nth = 1; nth <= 12; nth++) {
                int due = nth > cups ? -2 : Math.max(0, 80 - 9 * (nth - 1));
                DUE.is("P27: cup " + nth + " of " + cups, x.cup(nth % 12), due);
            }
            for (int g = 0; g < 12; g++) x.guest(g, (3 + g) % 12, 1, 0, 5);
            x.teas(1);
            for (int nth = 1; nth <= 12; nth++) {
                int burnt = nth <= cups && 80 > 9 * (nth - 1) ? 1 : 0;
                DUE.is("P9: burnt by cup " + nth + " of " + cups, x.guestIs(nth % 12, 4), burnt);
            }
        }
    }

    /** "With a DRAW: below d (asked ahead) she spills". */
    private static void drawsAndTenths() {
        for (int draw = 0; draw < 10; draw++) {
            for (int tenths = 0; tenths <= 10; tenths++) {
                TeaCabinet x = table(2, 0);
                x.mother(0);
                Due.law(x, "d" + tenths + "(1=1)");
                seedFor(x, draw);
                int due = draw < tenths ? 1 : 0;
                DUE.is("P10: DRAW " + draw + ", d " + tenths, x.tried(1, 2), due);
                DUE.is("P29: decides", x.end(1, 2), 1 - due);
                x.teas(1);
                DUE.is("P9: SPILT", x.count(5), due);
                DUE.is("P9: the DRAW", x.count(10) % 10, draw);
                DUE.is("P9: MOTHER", x.count(2), due);
                DUE.is("P9: in force", x.count(3), 1 - due);
                DUE.is("P9: POURED", x.guestIs(0, 5), 1 - due);
                DUE.is("P9: THE TEA", x.count(4), 1);
            }
        }
    }

    /** "the next told GUEST to her left is MOTHER now (she herself, if she is alone)", round the table. */
    private static void spiltRoundTheTable() {
        TeaCabinet x = new TeaCabinet();
        int[] seats = {11, 4, 0, 10};
        for (int g = 0; g < 4; g++) x.guest(g, seats[g], 1, 0, 1);
        Due.law(x, "d10(1=1);e9(1=1)");
        x.mother(3);
        int[] due = {0, 2, 1, 3, 0};
        for (int i = 0; i < due.length; i++) {
            x.teas(1);
            DUE.is("P9: MOTHER after " + (i + 1), x.count(2), due[i]);
        }
        DUE.is("P9: all are BURNT by spilt TEAS", x.guestIs(0, 4) + x.guestIs(3, 4), 10);
        DUE.is("P9: nothing is in force", x.count(3), 0);
        TeaCabinet alone = table(1, 11);
        alone.mother(0);
        Due.law(alone, "d10(1=1)");
        DUE.is("P9: alone", alone.teas(60), 60);
        DUE.is("P9: she herself", alone.count(2), 0);
        DUE.is("P9: SPILT", alone.count(5), 60);
    }

    /** "if all are, none is any more", "(of like ones the first)", for each M. */
    private static void allInForce() {
        for (int m = 2; m <= 6; m++) {
            TeaCabinet x = new TeaCabinet();
            x.measures(m);
            x.guest(0, 0, 1, 99, 1);
            x.mother(0);
            for (int i = 1; i <= m; i++) {
                x.teas(1);
                DUE.is("all alike: the first ones of " + m, x.count(3), (1 << i) - 1);
            }
            x.teas(1);
            DUE.is("none any more of " + m, x.count(3), 0);
            DUE.is("P10: and all again", x.tried(m, 1), (1 << m) - 1);
            DUE.is("P10: and none again", x.tried(m + 1, 1), 0);
            x.teas(1);
            DUE.is("the first again of " + m, x.count(3), 1);
        }
        TeaCabinet x = Due.voters(3, new int[] {1}, "b=c>a");
        x.mother(0);
        int[] due = {2, 6, 7, 0};
        for (int i = 0; i < 4; i++) DUE.is("of like ones the first", x.tried(i + 1, 1), due[i]);
    }

    /** "who has most (above 0; of like ones the nearest to the left of MOTHER) is MOTHER now". */
    private static void whoIsNearest() {
        for (int seat = 0; seat < 12; seat++) {
            TeaCabinet x = table(4, seat);
            x.mother(2);
            // 0 and 1 are asked by one each, 3 by nobody: 0 is nearer to the left of 2 than 1
            Due.law(x, "e1(g=3&c=1);e1(g=1&c=0)");
            DUE.is("P10: like ones, from SEAT " + seat, x.tried(1, 0), 0);
            Due.law(x, "e1(g=0&c=2);e1(g=1&c=0)");
            DUE.is("P10: MOTHER herself is the farthest", x.tried(1, 0), 0);
            Due.law(x, "e1(g=0&c=2);e1(g=3&c=2);e1(g=1&c=0)");
            DUE.is("P10: MOTHER herself has most", x.tried(1, 0), 2);
            Due.law(x, "e1(g=2&c=3);e1(g=0&c=1)");
            DUE.is("P10: the one just to the left", x.tried(1, 0), 3);
            x.guest(0, seat, 3, 99, 5);
            DUE.is("P10: most is ahead of nearest", x.tried(1, 0), 1);
            Due.law(x, "e1(1=2)");
            DUE.is("P10: nobody has any: she stays", x.tried(1, 0), 2);
        }
    }

    /** "All who got a cup and were not BURNT by it ASK"; "above 0". */
    private static void whoDoesNotAsk() {
        TeaCabinet x = table(3, 0);
        x.mother(0);
        Due.law(x, "e1(g=2&c=1)");
        DUE.is("P10: 2 asks 1", x.tried(1, 0), 1);
        x.pot(80, 1);
        DUE.is("P10: no cup for 2", x.tried(1, 0), 0);
        x.pot(80, 2);
        DUE.is("P10: just a cup for 2", x.tried(1, 0), 1);
        x.pot(80, 0);
        DUE.is("P10: no cups at all", x.tried(1, 0), 0);
        x.pot(80, 12);
        x.guest(2, 2, 2, 79, 5);
        DUE.is("P10: 2 is BURNT", x.tried(1, 0), 0);
        x.guest(2, 2, 0, 99, 5);
        DUE.is("P10: 2 has no BISCUITS", x.tried(1, 0), 0);
        x.guest(2, 2, 1, 80, 5);
        DUE.is("P10: one BISCUIT is enough", x.tried(1, 0), 1);
        Due.law(x, "e1(g=0&c=2)");
        x.pot(80, 2);
        DUE.is("P10: no cup for MOTHER herself", x.tried(1, 0), 0);
        x.pot(80, 3);
        DUE.is("P10: the last cup for MOTHER", x.tried(1, 0), 2);
        x.guest(0, 0, 2, 79, 5);
        DUE.is("P10: MOTHER is BURNT herself", x.tried(1, 0), 0);
    }

    private static void aloneAtTheTable() {
        TeaCabinet x = table(1, 7);
        x.mother(0);
        Due.law(x, "e9(1=1);k9(1=1)");
        DUE.is("P27: her own cup is the first", x.cup(0), 80);
        DUE.is("P28: MOTHER herself", x.where(0), -2);
        DUE.is("P9: teas", x.teas(60), 60);
        DUE.is("P9: she stays", x.count(2), 0);
        DUE.is("P11: POURED", x.guestIs(0, 5), 60);
        DUE.is("P29: who", x.end(60, 0), 0);
        DUE.is("P29: how often", x.end(60, 1), 60);
    }

    /** "-2: she gets none; -3: there is no MOTHER; NONE: no such one." */
    private static void boundsOfCups() {
        TeaCabinet x = table(3, 10);
        x.mother(1);
        Due.law(x, "k20(1=1)");
        int[] due = {60, 40, 80};
        for (int g = 0; g < 3; g++) DUE.is("P27: " + g, x.cup(g), due[g]);
        int[] wrong = {-1, 3, 11, 12, 32};
        for (int g : wrong) DUE.is("P27: " + g, x.cup(g), -1);
        for (int g : FAR) DUE.is("P27: " + g, x.cup(g), -1);
        x.pot(39, 2);
        DUE.is("P27: the first of two", x.cup(2), 39);
        DUE.is("P27: the second of two", x.cup(0), 19);
        DUE.is("P27: she gets none", x.cup(1), -2);
        x.pot(19, 3);
        DUE.is("P27: 0 at least", x.cup(0), 0);
        DUE.is("P27: 0 is a cup", x.cup(1), 0);
        x.pot(19, 0);
        for (int g = 0; g < 3; g++) DUE.is("P27: no cups", x.cup(g), -2);
    }

    /** "-2: nowhere, MOTHER herself; -3: there is no MOTHER; NONE: no such one." */
    private static void boundsOfWhere() {
        TeaCabinet x = table(3, 0);
        x.mother(0);
        int[] wrong = {-1, 3, 11, 12, 32};
        for (int g : wrong) DUE.is("P28: " + g, x.where(g), -1);
        for (int g : FAR) DUE.is("P28: " + g, x.where(g), -1);
        DUE.is("P28: MOTHER herself", x.where(0), -2);
        Due.law(x, "k10(1=1)");
        DUE.is("P28: 1 ahead of 2, where she is", x.where(1), 1);
        x.guest(1, 1, 1, 79, 5);
        DUE.is("P28: 1 behind 2, as 80 is too hot", x.where(1), 3);
        x.guest(1, 1, 1, 70, 5);
        DUE.is("P28: 70 is just borne", x.where(1), 3);
        x.guest(1, 1, 1, 69, 5);
        DUE.is("P28: 70 is not borne", x.where(1), -2);
        x.guest(1, 1, 1, 70, 5);
        x.pot(80, 1);
        DUE.is("P28: there is no second cup", x.where(1), -2);
        x.pot(0, 2);
        DUE.is("P28: of like ones the lowest", x.where(2), 2);
        x.guest(2, 5, 1, 0, 5);
        DUE.is("P28: a free one that is lower", x.where(2), 2);
        TeaCabinet full = table(12, 0);
        full.mother(4);
        DUE.is("P28: just her own at a full table", full.where(7), 7);
        full.guest(7, 7, 1, 79, 1);
        DUE.is("P28: nor that one", full.where(7), -2);
    }

    /** SEATS from the one to the left of MOTHER round to the one to her right, over 11 and 0. */
    private static void whereRoundTheTable() {
        TeaCabinet x = new TeaCabinet();
        x.guest(0, 10, 1, 99, 1);
        x.guest(1, 1, 1, 99, 1);
        x.guest(2, 5, 1, 99, 1);
        x.mother(0);
        Due.law(x, "k10(1=1)");
        DUE.is("P28: ahead of 1: 11 or 0", x.where(2), 0);
        DUE.is("P28: ahead of 2: 11, 0 to 4", x.where(1), 0);
        x.guest(3, 0, 1, 99, 1);
        DUE.is("P28: 0 is taken", x.where(2), 11);
        x.guest(4, 11, 1, 99, 1);
        DUE.is("P28: both are taken: behind 4, 3 and 1", x.where(2), 2);
        x.guest(2, 5, 1, 69, 1);
        DUE.is("P28: behind all: 60 at most", x.where(2), 2);
        DUE.is("P28: 4 is the first, where she is", x.where(4), 11);
        x.guest(4, 11, 1, 79, 1);
        DUE.is("P28: 4 behind 3 only: no free SEAT; behind 1: 60", x.where(4), 2);
        x.guest(1, 2, 1, 99, 1);
        DUE.is("P28: 4 behind 3, ahead of 1: SEAT 1", x.where(4), 1);
    }

    private static void boundsOfEnd() {
        TeaCabinet x = table(2, 0);
        x.mother(1);
        int[] wrong = {0, -1, 61};
        for (int n : wrong) DUE.is("P29: n " + n, x.end(n, 0), -1);
        for (int n : FAR) DUE.is("P29: n " + n, x.end(n, 0), -1);
        int[] whats = {-1, 3, 10};
        for (int what : whats) DUE.is("P29: what " + what, x.end(1, what), -1);
        for (int what : FAR) DUE.is("P29: what " + what, x.end(1, what), -1);
        for (int n = 1; n <= 60; n++) DUE.is("P29: how often of " + n, x.end(n, 1), n);
        DUE.is("P29: who of 1", x.end(1, 0), 1);
        DUE.is("P29: who of 60", x.end(60, 0), 1);
        DUE.is("P29: nothing is changed", x.count(4), 0);
    }

    /** "(how often one is when a TEA begins; of like ones the lowest); in how many of these TEAS of hers she decides". */
    private static void likeOnesInTheEnd() {
        TeaCabinet x = table(3, 0);
        x.mother(2);
        Due.law(x, "d10(t<3);d10(t=4)");
        // 2, 0, 1 spill; 2 decides and stays; 2 spills; 0 decides and stays
        int[] who = {2, 0, 0, 2, 2, 2, 0, 0};
        int[] often = {1, 1, 1, 2, 3, 3, 3, 4};
        int[] decides = {0, 0, 0, 1, 1, 1, 2, 3};
        for (int n = 1; n <= 8; n++) {
            DUE.is("P29: who of " + n, x.end(n, 0), who[n - 1]);
            DUE.is("P29: how often of " + n, x.end(n, 1), often[n - 1]);
            DUE.is("P29: decides of " + n, x.end(n, 2), decides[n - 1]);
        }
    }
}
