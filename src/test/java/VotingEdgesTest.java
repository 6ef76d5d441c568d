/** The edges of votes and of the table: promises 13 to 20, 22 to 26 and 30 to 32 (21 is in TextEdgesTest). */
public final class VotingEdgesTest {
    private static final int[] FAR = {Integer.MIN_VALUE, Integer.MIN_VALUE + 1, -1000, 1000, Integer.MAX_VALUE};
    private static final Due DUE = new Due();

    public static void main(String[] args) {
        boundsOfMeasures();
        boundsOfPlaces();
        boundsOfWhats();
        boundsOfGuests();
        noGuests();
        noBiscuits();
        likeOnesCountForNone();
        likeOnesAmongTheFirst();
        likeOnesByPoints();
        likeOnesInARunOff();
        placesOfARunOff();
        beatenByOneBiscuit();
        theLeastSet();
        widestPaths();
        neitherBeats();
        rowsOfAnOrder();
        justHalf();
        mostPower();
        moreThanEachOther();
        likeOnesWonOver();
        liesByM();
        leastLies();
        boundsOfTheUndecided();
        whoMayWin();
        leftRoundTheTable();
        partings();
        parties();
        DUE.finish();
    }

    /** The RANKING of M MEASURES by their letters, or turned. */
    private static String row(int m, boolean turned) {
        StringBuilder row = new StringBuilder();
        for (int i = 0; i < m; i++) row.append(i == 0 ? "" : ">").append((char) ('a' + i));
        return turned ? row.reverse().toString() : row.toString();
    }

    /** "(not the same); NONE: no such ones", for each M. */
    private static void boundsOfMeasures() {
        for (int m = 2; m <= 6; m++) {
            TeaCabinet x = Due.voters(m, new int[] {7}, row(m, false));
            DUE.is("P13: first against last of " + m, x.pair(0, m - 1), 7);
            DUE.is("P13: last against first of " + m, x.pair(m - 1, 0), 0);
            DUE.is("P19: first to last of " + m, x.widest(0, m - 1), 7);
            DUE.is("P19: last to first of " + m, x.widest(m - 1, 0), 0);
            DUE.is("P22: the first of " + m, x.orders(0, 10) > 0, true);
            DUE.is("P24: the last of " + m, x.wonOver(m - 1, 1), 1);
            for (int i = 0; i < m; i++) {
                DUE.is("P13: the same " + i, x.pair(i, i), -1);
                DUE.is("P19: the same " + i, x.widest(i, i), -1);
            }
            int[] wrong = {-2, -1, m, m + 1, 10, 32, FAR[0], FAR[1], FAR[2], FAR[3], FAR[4]};
            for (int i : wrong) {
                DUE.is("P13: " + i, x.pair(i, 0) == -1 && x.pair(0, i) == -1 && x.pair(i, i) == -1, true);
                DUE.is("P19: " + i, x.widest(i, 0) == -1 && x.widest(0, i) == -1 && x.widest(i, i) == -1, true);
                DUE.is("P22: " + i, x.orders(i, 10) == -1 && x.orders(i, 0) == -1, true);
                DUE.is("P24: " + i, x.wonOver(i, 0) == -1 && x.wonOver(i, 1) == -1, true);
            }
        }
    }

    /** "what 10 the winner, else ..", "(0 on; M - 1 of them)", "at place what": 10 and those of M alone. */
    private static void boundsOfPlaces() {
        for (int m = 2; m <= 6; m++) {
            TeaCabinet x = Due.voters(m, new int[] {7}, row(m, true));
            DUE.is("P14: the winner of " + m, x.firsts(10), m - 1);
            DUE.is("P15: the winner of " + m, x.points(10), m - 1);
            DUE.is("P16: the winner of " + m, x.runOff(10), m - 1);
            DUE.is("P14: the last of " + m, x.firsts(m - 1), 7);
            DUE.is("P15: the last of " + m, x.points(m - 1), 7 * (m - 1));
            DUE.is("P15: the first of " + m, x.points(0), 0);
            DUE.is("P16: the last place of " + m, x.runOff(m - 2), 0);
            DUE.is("P16: who wins does not go out of " + m, x.runOff(m - 1), -1);
            DUE.is("P22: the last place of " + m, x.orders(m - 1, m - 1), m - 1);
            DUE.is("P25: the last place of " + m, x.lie(0, m - 1), m == 6 ? -3 : -2);
            int[] wrong = {-2, -1, m, 7, 9, 11, 42, FAR[0], FAR[1], FAR[2], FAR[3], FAR[4]};
            for (int what : wrong) {
                DUE.is("P14: " + what, x.firsts(what), -1);
                DUE.is("P15: " + what, x.points(what), -1);
                DUE.is("P16: " + what, x.runOff(what), -1);
                DUE.is("P22: " + what, x.orders(m - 1, what), -1);
                DUE.is("P22: " + what + " of one without a row", x.orders(0, what), -1);
                DUE.is("P25: " + what, x.lie(0, what), -1);
            }
        }
    }

    private static void boundsOfWhats() {
        TeaCabinet x = Due.voters(3, new int[] {3, 2}, "a>b>c", "b>c>a");
        int[] wrong = {-2, -1, 2, 3, 10, FAR[0], FAR[1], FAR[2], FAR[3], FAR[4]};
        for (int what : wrong) {
            DUE.is("P24: " + what, x.wonOver(0, what), -1);
            DUE.is("P26: " + what, x.sure(0, what), -1);
            DUE.is("P31: " + what, x.parted(what), -1);
            if (what != 2) DUE.is("P23: any, " + what, x.power(-1, what), -1);
            DUE.is("P23: one, " + what, x.power(0, what), -1);
        }
        DUE.is("P23: any, 0", x.power(-1, 0), -1);
        DUE.is("P23: one, 1", x.power(0, 1), -1);
        DUE.is("P23: one, 0", x.power(0, 0), 2);
        DUE.is("P23: any, 1", x.power(-1, 1), 2);
        DUE.is("P23: any, 2", x.power(-1, 2), 1);
        int[] others = {-1, 2, 12, 99, 101, FAR[0], FAR[1], FAR[2], FAR[3], FAR[4]};
        for (int what : others) DUE.is("P32: " + what, x.alike(what), -1);
    }

    private static void boundsOfGuests() {
        TeaCabinet x = new TeaCabinet();
        x.guest(0, 0, 1, 1, 1);
        x.guest(11, 6, 1, 1, 1);
        int[] wrong = {-2, 1, 10, 12, 32, 43, FAR[0], FAR[1], FAR[2], FAR[3], FAR[4]};
        for (int g : wrong) {
            DUE.is("P23: " + g, x.power(g, 0) == -1 && x.power(g, 1) == -1 && x.power(g, 2) == -1, true);
            DUE.is("P25: " + g, x.lie(g, 10) == -1 && x.lie(g, 0) == -1, true);
            DUE.is("P30: " + g, x.left(g, 1), -1);
            DUE.is("P32: " + g, x.alike(g), -1);
        }
        DUE.is("P23: guest 11", x.power(11, 0), 1);
        DUE.is("P25: guest 11", x.lie(11, 10), 0);
        DUE.is("P30: guest 11", x.left(11, 1), 0);
        DUE.is("P32: guest 11", x.alike(11), 1 << 11 | 1);
        DUE.is("P25: -1", x.lie(-1, 10), -1);
        DUE.is("P30: -1", x.left(-1, 1), -1);
    }

    /** Empty: what all votes come to without GUESTS, for each M. */
    private static void noGuests() {
        for (int m = 2; m <= 6; m++) {
            TeaCabinet x = new TeaCabinet();
            x.measures(m);
            nothingToVoteWith(x, m);
            DUE.is("P23: any", x.power(-1, 1) + x.power(-1, 2), 0);
            DUE.is("P26: bits of nobody", x.sure(1, 0), -1);
            DUE.is("P31: the first parting", x.parted(0), 0);
            DUE.is("P31: nothing between", x.parted(1), 0);
            DUE.is("P32: no PARTIES", x.alike(100), 0);
        }
    }

    /** GUESTS without BISCUITS: as if there were none. */
    private static void noBiscuits() {
        for (int m = 2; m <= 6; m++) {
            TeaCabinet x = Due.voters(m, new int[] {0, 0}, row(m, true), row(m, true));
            nothingToVoteWith(x, m);
            DUE.is("P23: nobody has power", x.power(0, 0), 0);
            DUE.is("P23: no set has more than half of nothing", x.power(-1, 1), 0);
            DUE.is("P23: nor is one of them least", x.power(-1, 2), 0);
            DUE.is("P25: no lie helps", x.lie(0, 10), m == 6 ? -3 : 0);
            DUE.is("P26: nor do the undecided", x.sure(3, 1), 1);
            DUE.is("P26: the first is sure", x.sure(3, 0), 1);
            DUE.is("P32: one PARTY", x.alike(100), 1);
        }
    }

    private static void nothingToVoteWith(TeaCabinet x, int m) {
        int all = (1 << m) - 1;
        DUE.is("P13: pair", x.pair(m - 1, 0), 0);
        DUE.is("P14: of like ones the first", x.firsts(10), 0);
        DUE.is("P15: of like ones the first", x.points(10), 0);
        DUE.is("P16: of like ones the last goes out", x.runOff(0), m - 1);
        DUE.is("P16: the first one is left", x.runOff(10), 0);
        DUE.is("P17: none beats", x.best(), -2);
        DUE.is("P18: all", x.set(), all);
        DUE.is("P19: none", x.widest(0, m - 1), 0);
        DUE.is("P20: all", x.pathWinners(), all);
        DUE.is("P21: the left one", Due.agenda(x, "(ba)"), 1);
        int rows = 1;
        for (int i = 2; i < m; i++) rows *= i;
        for (int i = 0; i < m; i++) {
            DUE.is("P22: each row that it begins", x.orders(i, 10), rows);
            DUE.is("P22: it is the first", x.orders(i, 0), i);
            DUE.is("P24: not by all", x.wonOver(i, 0), -2);
            DUE.is("P24: not by all, which", x.wonOver(i, 1), -2);
        }
        DUE.is("P26: a wins as the first", x.sure(0, 0), 1);
        DUE.is("P26: none else may", x.sure(0, 1), 1);
    }

    private static void likeOnesCountForNone() {
        TeaCabinet x = Due.voters(3, new int[] {20, 3}, "a=b>c", "c>b=a");
        DUE.is("P13: alike, neither is ahead", x.pair(0, 1) + x.pair(1, 0), 0);
        DUE.is("P13: ahead", x.pair(0, 2), 20);
        DUE.is("P13: behind", x.pair(2, 0), 3);
        DUE.is("P15: a", x.points(0), 20);
        DUE.is("P15: b", x.points(1), 20);
        DUE.is("P15: c is ahead of two", x.points(2), 6);
        DUE.is("P17: none beats each", x.best(), -2);
        DUE.is("P18: a, b", x.set(), 3);
        DUE.is("P20: a, b", x.pathWinners(), 3);
    }

    /** "(of like ones the first)": of one GUEST's, and of those that win. */
    private static void likeOnesAmongTheFirst() {
        TeaCabinet x = Due.voters(4, new int[] {5, 5, 1}, "d=c>a>b", "b=d>a=c", "a=b=c=d");
        int[] due = {1, 5, 5, 0};
        for (int i = 0; i < 4; i++) DUE.is("P14: " + i, x.firsts(i), due[i]);
        DUE.is("P14: of b, c the first", x.firsts(10), 1);
        x.guest(2, 2, 20, 1, 1);
        DUE.is("P14: all alike go to a", x.firsts(10), 0);
        DUE.is("P14: a", x.firsts(0), 20);
    }

    /** "the most wins (of like ones the first letter)". */
    private static void likeOnesByPoints() {
        TeaCabinet x = Due.voters(3, new int[] {5, 5}, "c>b>a", "b>c>a");
        DUE.is("P15: b, c alike", x.points(1) - x.points(2), 0);
        DUE.is("P15: b is the first of them", x.points(10), 1);
        TeaCabinet full = Due.voters(6, new int[] {20, 20, 20, 20, 20, 20, 20, 20, 20, 20, 20, 20}, row(6, true), row(6, true),
            row(6, true), row(6, true), row(6, true), row(6, true), row(6, true), row(6, true), row(6, true), row(6, true),
            row(6, true), row(6, true));
        DUE.is("P15: the most POINTS that can be", full.points(5), 1200);
        DUE.is("P13: the most BISCUITS that can be", full.pair(5, 0), 240);
        DUE.is("P14: the most FIRST ONES that can be", full.firsts(5), 240);
        DUE.is("P19: the widest path that can be", full.widest(5, 0), 240);
    }

    /** "the one with fewest goes out (of like ones the last letter), till one is left". */
    private static void likeOnesInARunOff() {
        TeaCabinet x = Due.voters(4, new int[] {2, 2, 2, 2}, "d>a>b>c", "c>a>b>d", "b>a>c>d", "a>b>c>d");
        int[] due = {3, 2, 1};
        for (int place = 0; place < 3; place++) DUE.is("P16: " + place, x.runOff(place), due[place]);
        DUE.is("P16: a", x.runOff(10), 0);
        TeaCabinet two = Due.voters(2, new int[] {2, 2}, "b>a", "a>b");
        DUE.is("P16: b goes out", two.runOff(0), 1);
        DUE.is("P16: a is left", two.runOff(10), 0);
        TeaCabinet late = Due.voters(3, new int[] {3, 2, 2}, "c>b>a", "a>b>c", "b>a>c");
        DUE.is("P16: of a, b the last letter", late.runOff(0), 1);
        DUE.is("P16: then a has more", late.runOff(1), 2);
        DUE.is("P16: a wins", late.runOff(10), 0);
    }

    /** FIRST ONES "of those that are left": BISCUITS go on to the next one; none for nobody go out at once. */
    private static void placesOfARunOff() {
        TeaCabinet x = Due.voters(6, new int[] {9, 8, 4, 2, 1, 0}, "a>b>c>d>e>f", "b>c>a>d>e>f", "c>d=b>a>e>f", "d>c>b>a>e>f",
            "e>d>c>b>a>f", "f>a>b>c>d>e");
        int[] due = {5, 4, 3, 2, 0};
        for (int place = 0; place < 5; place++) DUE.is("P16: " + place, x.runOff(place), due[place]);
        DUE.is("P16: b (8 + 7 against 9)", x.runOff(10), 1);
        DUE.is("P16: there is no fifth place", x.runOff(5), -1);
        TeaCabinet rich = Due.voters(3, new int[] {20, 20, 20, 20, 20, 20, 20}, "a>b>c", "a>b>c", "a>b>c", "b>c>a", "b>c>a",
            "c>b>a", "c>b>a");
        DUE.is("P16: of b, c with 40 the last letter", rich.runOff(0), 2);
        DUE.is("P16: 60 go out against 80", rich.runOff(1), 0);
        DUE.is("P16: b", rich.runOff(10), 1);
    }

    /** "one BEATS another one by more of them": by one, not by as many. */
    private static void beatenByOneBiscuit() {
        TeaCabinet x = Due.voters(2, new int[] {5, 4}, "b>a", "a>b");
        DUE.is("P17: b beats a", x.best(), 1);
        DUE.is("P18: b", x.set(), 2);
        DUE.is("P19: 5 wide", x.widest(1, 0), 5);
        DUE.is("P19: none back", x.widest(0, 1), 0);
        DUE.is("P20: b", x.pathWinners(), 2);
        DUE.is("P21: b though on the right", Due.agenda(x, "(ab)"), 1);
        DUE.is("P22: both rows", x.orders(1, 10), 2);
        x.guest(2, 2, 1, 0, 0);
        Due.rank(x, 2, "a>b");
        DUE.is("P17: as many: none", x.best(), -2);
        DUE.is("P18: both", x.set(), 3);
        DUE.is("P19: no path", x.widest(1, 0), 0);
        DUE.is("P20: both", x.pathWinners(), 3);
        DUE.is("P21: the left one", Due.agenda(x, "(ab)"), 0);
        DUE.is("P22: one row each", x.orders(1, 10), 1);
    }

    /** "the fewest MEASURES each of which BEATS all that are not in it", from one to all of them. */
    private static void theLeastSet() {
        for (int m = 2; m <= 6; m++) {
            TeaCabinet x = Due.voters(m, new int[] {1}, row(m, true));
            DUE.is("P18: just the last of " + m, x.set(), 1 << m - 1);
            DUE.is("P17: it is the best of " + m, x.best(), m - 1);
            TeaCabinet turned = Due.voters(m, new int[] {1}, row(m, false));
            DUE.is("P18: just the first of " + m, turned.set(), 1);
            DUE.is("P17: it is the best of " + m, turned.best(), 0);
            DUE.is("P20: it wins the paths of " + m, turned.pathWinners(), 1);
        }
        TeaCabinet ring = Due.voters(6, new int[] {1, 1, 1, 1, 1, 1}, "a>b>c>d>e>f", "b>c>d>e>f>a", "c>d>e>f>a>b", "d>e>f>a>b>c",
            "e>f>a>b>c>d", "f>a>b>c>d>e");
        DUE.is("P18: all six in a ring", ring.set(), 63);
        DUE.is("P17: none", ring.best(), -2);
        TeaCabinet pair = Due.voters(3, new int[] {1, 1}, "c>b>a", "b>c>a");
        DUE.is("P18: b, c", pair.set(), 6);
        TeaCabinet five = Due.voters(6, new int[] {1, 1}, "b>c>d>e>f>a", "f>e>d>c>b>a");
        DUE.is("P18: all but a", five.set(), 62);
    }

    /** "as wide as its narrowest step", "the widest one (0: none)", "at least as wide as that back". */
    private static void widestPaths() {
        // a beats b by 9, b beats c by 8, c beats d by 6, d beats a by 7; a beats c by 7, d beats b by 6
        TeaCabinet x = Due.voters(4, new int[] {3, 2, 4, 1}, "a>b>c>d", "c>d>a>b", "d>a>b>c", "b>c>d>a");
        DUE.is("a ahead of b", x.pair(0, 1), 9);
        DUE.is("b ahead of c", x.pair(1, 2), 8);
        DUE.is("c ahead of d", x.pair(2, 3), 6);
        DUE.is("d ahead of a", x.pair(3, 0), 7);
        DUE.is("P19: one step", x.widest(0, 1), 9);
        DUE.is("P19: two steps", x.widest(0, 2), 8);
        DUE.is("P19: three steps", x.widest(0, 3), 6);
        DUE.is("P19: round and back", x.widest(1, 0), 6);
        DUE.is("P19: d to c by a, b", x.widest(3, 2), 7);
        DUE.is("P19: c to b by d, a", x.widest(2, 1), 6);
        DUE.is("P20: d", x.pathWinners(), 8);
        TeaCabinet even = Due.voters(3, new int[] {2, 2, 2}, "a>b>c", "b>c>a", "c>a>b");
        DUE.is("P20: as wide as back: all", even.pathWinners(), 7);
        DUE.is("P19: both ways", even.widest(0, 2) * 10 + even.widest(2, 0), 44);
    }

    /** "(neither: the left one)", "who won so far on the left". */
    private static void neitherBeats() {
        TeaCabinet x = Due.voters(4, new int[] {2, 2}, "a>b>c>d", "c>b>a>d");
        Object[][] due = {{"(ac)", 0}, {"(ca)", 2}, {"((ab)c)", 0}, {"((cb)a)", 2}, {"(b(ca))", 1}, {"((ca)b)", 2},
            {"(d(bc))", 1}, {"((da)c)", 0}, {"(aa)", 0}, {"(dd)", 3}, {"((dc)(ab))", 2}};
        for (Object[] d : due) DUE.is("P21: " + d[0], Due.agenda(x, (String) d[0]), (int) d[1]);
        for (int i = 0; i < 3; i++) DUE.is("P22: " + i + " first of the three", x.orders(i, 10), 8);
        DUE.is("P22: d never", x.orders(3, 10), 0);
        for (int place = 0; place < 4; place++) DUE.is("P22: d, place " + place, x.orders(3, place), -2);
        DUE.is("P22: d, no such place", x.orders(3, 4), -1);
    }

    /** "how many of all rows one MEASURE wins; the least such row": all rows, or none. */
    private static void rowsOfAnOrder() {
        int all = 1;
        for (int m = 2; m <= 6; m++) {
            all *= m;
            TeaCabinet x = Due.voters(m, new int[] {1}, row(m, true));
            DUE.is("P22: all rows of " + m, x.orders(m - 1, 10), all);
            for (int place = 0; place < m; place++) DUE.is("P22: the least of all", x.orders(m - 1, place), place);
            for (int i = 0; i < m - 1; i++) {
                DUE.is("P22: none", x.orders(i, 10), 0);
                DUE.is("P22: none, a place", x.orders(i, m - 1), -2);
            }
        }
        TeaCabinet ring = Due.voters(3, new int[] {1, 1, 1}, "a>b>c", "b>c>a", "c>a>b");
        int[][] least = {{1, 2, 0}, {0, 2, 1}, {0, 1, 2}};
        for (int i = 0; i < 3; i++) {
            for (int place = 0; place < 3; place++) DUE.is("P22: ring " + i, ring.orders(i, place), least[i][place]);
        }
    }

    /** "no more than half of all BISCUITS, but more with it"; "more than half". */
    private static void justHalf() {
        TeaCabinet even = Due.voters(2, new int[] {5, 5}, "", "");
        DUE.is("P23: half is not more", even.power(-1, 1), 1);
        DUE.is("P23: both are needed", even.power(-1, 2), 1);
        DUE.is("P23: with the other one", even.power(0, 0), 1);
        TeaCabinet one = Due.voters(2, new int[] {6, 5}, "", "");
        DUE.is("P23: one more than half", one.power(-1, 1), 2);
        DUE.is("P23: she alone", one.power(-1, 2), 1);
        DUE.is("P23: with nobody or the other one", one.power(0, 0), 2);
        DUE.is("P23: no power", one.power(1, 0), 0);
        TeaCabinet odd = Due.voters(2, new int[] {2, 2, 1}, "", "", "");
        DUE.is("P23: 3 of 5", odd.power(2, 0), 2);
        DUE.is("P23: least ones", odd.power(-1, 2), 3);
        TeaCabinet half = Due.voters(2, new int[] {3, 2, 1}, "", "", "");
        DUE.is("P23: 3 of 6 is not more", half.power(-1, 1), 3);
        DUE.is("P23: 3 and one of them", half.power(-1, 2), 2);
    }

    private static void mostPower() {
        TeaCabinet alone = Due.voters(2, new int[] {1}, "");
        DUE.is("P23: alone", alone.power(0, 0), 1);
        DUE.is("P23: the set of her", alone.power(-1, 1), 1);
        DUE.is("P23: the least one", alone.power(-1, 2), 1);
        int[] biscuits = new int[12];
        String[] alike = new String[12];
        java.util.Arrays.fill(alike, "");
        biscuits[4] = 20;
        TeaCabinet rich = Due.voters(2, biscuits, alike);
        DUE.is("P23: with each set of others", rich.power(4, 0), 2048);
        DUE.is("P23: sets of hers", rich.power(-1, 1), 2048);
        DUE.is("P23: she alone is least", rich.power(-1, 2), 1);
        DUE.is("P23: those without BISCUITS", rich.power(11, 0), 0);
        java.util.Arrays.fill(biscuits, 20);
        TeaCabinet full = Due.voters(2, biscuits, alike);
        DUE.is("P23: the full table", full.power(11, 0), 462);
        DUE.is("P23: seven of twelve", full.power(-1, 2), 792);
    }

    /** "make it have more FIRST ONES than each other one"; "-2: not by all". */
    private static void moreThanEachOther() {
        TeaCabinet x = Due.voters(3, new int[] {4, 3, 1}, "a>b>c", "b>a>c", "b=c>a");
        DUE.is("P24: a, b have 4 each: as many is not more", x.wonOver(0, 0), 1);
        DUE.is("P24: by the least bits", x.wonOver(0, 1), 2);
        DUE.is("P24: b needs the first one", x.wonOver(1, 1), 1);
        DUE.is("P24: c", x.wonOver(2, 0), 2);
        DUE.is("P24: c by 0 and 1", x.wonOver(2, 1), 3);
        x.guest(0, 0, 5, 1, 1);
        Due.rank(x, 0, "a>b>c");
        DUE.is("P24: one more: by nobody", x.wonOver(0, 0), 0);
        DUE.is("P24: no bits", x.wonOver(0, 1), 0);
        x.guest(0, 0, 0, 1, 1);
        x.guest(1, 1, 0, 1, 1);
        DUE.is("P24: all by one BISCUIT", x.wonOver(2, 1), 4);
        x.guest(2, 2, 0, 1, 1);
        DUE.is("P24: not by all", x.wonOver(2, 0), -2);
        DUE.is("P24: which, not by all", x.wonOver(2, 1), -2);
        DUE.is("P24: not even the first one", x.wonOver(0, 0), -2);
    }

    /** "of like ones the least bits". */
    private static void likeOnesWonOver() {
        int[] biscuits = new int[12];
        String[] alike = new String[12];
        java.util.Arrays.fill(alike, "");
        java.util.Arrays.fill(biscuits, 20);
        TeaCabinet x = Due.voters(2, biscuits, alike);
        DUE.is("P24: seven of twelve", x.wonOver(1, 0), 7);
        DUE.is("P24: the lowest seven", x.wonOver(1, 1), 127);
        DUE.is("P24: a has all", x.wonOver(0, 1), 0);
        x.guest(11, 11, 1, 1, 1);
        x.guest(0, 0, 1, 1, 1);
        DUE.is("P24: six of ten with 20", x.wonOver(1, 1), 126);
        TeaCabinet own = Due.voters(3, new int[] {5, 3}, "c>b>a", "b>c>a");
        DUE.is("P24: their own ones go to it: from c", own.wonOver(0, 1), 1);
        DUE.is("P24: their own ones go to it: b, from c", own.wonOver(1, 1), 1);
    }

    /** "(M up to 5)", "-2 (of places): none; -3: M is 6; NONE: no such ones." */
    private static void liesByM() {
        for (int m = 2; m <= 6; m++) {
            TeaCabinet x = Due.voters(m, new int[] {5, 1}, row(m, false), row(m, true));
            DUE.is("P25: nothing helps with " + m, x.lie(1, 10), m == 6 ? -3 : 0);
            for (int place = 0; place < m; place++) DUE.is("P25: a place of " + m, x.lie(1, place), m == 6 ? -3 : -2);
            DUE.is("P25: no such place of " + m, x.lie(1, m), -1);
            DUE.is("P25: no such GUEST with " + m, x.lie(2, 10), -1);
            DUE.is("P25: no such GUEST, place, with " + m, x.lie(-1, 0), -1);
        }
        TeaCabinet alike = Due.voters(5, new int[] {5, 4}, "a>b>c>d>e", "a=b=c=d=e");
        DUE.is("P25: nothing is higher", alike.lie(1, 10), 0);
        DUE.is("P25: nor at a place", alike.lie(1, 0), -2);
    }

    /** "those by which the RUN OFF ends with a MEASURE that it ranks higher", "the least (by the row of letters)". */
    private static void leastLies() {
        TeaCabinet x = Due.voters(5, new int[] {3, 2}, "e>d=c=b=a", "a>b>c>d>e");
        x.guest(2, 2, 2, 1, 1);
        Due.rank(x, 2, "b>a>c>d>e");
        // b goes out of like ones a, b with 2: a wins by 4; 2 has b higher
        DUE.is("P25: a wins now", x.runOff(10), 0);
        DUE.is("P25: 2 has no lie, as b then has 2 at most", x.lie(2, 10), 0);
        TeaCabinet strong = Due.voters(5, new int[] {3, 2, 20}, "a>b>c>d>e", "b>a>c>d>e", "e=d>c>b>a");
        // d wins now by 20; e is alike, so no lie
        DUE.is("P25: alike is not higher", strong.lie(2, 10), 0);
        TeaCabinet first = Due.voters(5, new int[] {20, 1}, "a=b=c=d>e", "e>d>c>b>a");
        DUE.is("P25: a wins, others are alike to it", first.lie(0, 10), 0);
        TeaCabinet two = Due.voters(3, new int[] {5, 4, 3}, "a>b>c", "b>c>a", "c>a>b");
        int[] least = {2, 0, 1};
        DUE.is("P25: two lies", two.lie(1, 10), 2);
        for (int place = 0; place < 3; place++) DUE.is("P25: the least of two", two.lie(1, place), least[place]);
        DUE.is("P25: nothing is changed", two.guestIs(1, 11), 0);
        TeaCabinet tie = Due.voters(5, new int[] {5, 4, 4}, "a=b>c>d>e", "c>b>a>d>e", "d>b>c>a>e");
        int[] row = {1, 0, 2, 3, 4};
        DUE.is("P25: 24 of 120", tie.lie(0, 10), 24);
        for (int place = 0; place < 5; place++) DUE.is("P25: the least of 24", tie.lie(0, place), row[place]);
        TeaCabinet last = Due.voters(5, new int[] {5, 4, 6}, "d=e>c>b>a", "e>c>d>b>a", "c>d>e>a>b");
        int[] withE = {4, 0, 1, 2, 3};
        DUE.is("P25: c wins now", last.runOff(10), 2);
        DUE.is("P25: each row with e at first helps, the last of all rows, too", last.lie(0, 10), 24);
        for (int place = 0; place < 5; place++) DUE.is("P25: the least with e", last.lie(0, place), withE[place]);
        TeaCabinet instead = Due.voters(3, new int[] {3, 2, 5}, "c>a>b", "c>a>b", "b>a>c");
        DUE.is("P25: b wins now", instead.runOff(10), 1);
        DUE.is("P25: in place of its own: c has 2 then and goes out", instead.lie(0, 10), 2);
        for (int place = 0; place < 3; place++) DUE.is("P25: the least with a", instead.lie(0, place), place);
    }

    /** "(bits, 0 to 6 told ones)". */
    private static void boundsOfTheUndecided() {
        TeaCabinet x = new TeaCabinet();
        for (int g = 0; g < 12; g++) {
            if (g != 3) x.guest(g, g, 1, 1, 1);
        }
        DUE.is("P26: none", x.sure(0, 1), 1);
        int[] right = {1, 2, 1 << 11, 0x7 | 0x70, 0xfc0, 0x810};
        for (int bits : right) DUE.is("P26: bits " + bits, x.sure(bits, 1) > 0, true);
        int[] wrong = {8, 9, 0xff7, 0x77 | 0x80, 1 << 12, 1 << 12 | 1, 1 << 30, -1, -2, Integer.MIN_VALUE, Integer.MAX_VALUE};
        for (int bits : wrong) DUE.is("P26: bits " + bits, x.sure(bits, 0) == -1 && x.sure(bits, 1) == -1, true);
        DUE.is("P26: seven told ones", x.sure(0xfe0, 0), -1);
        DUE.is("P26: six of eleven: each may", x.sure(0xfc0, 1), 15);
        DUE.is("P26: five of eleven: a alone", x.sure(0xf80, 1), 1);
        DUE.is("P26: five of eleven: a surely", x.sure(0xf80, 0), 1);
        DUE.is("P26: six of eleven: none surely", x.sure(0xfc0, 0), 0);
    }

    /** "win the FIRST ONES whatever they do; that may win them": with as many the first letter wins. */
    private static void whoMayWin() {
        TeaCabinet x = Due.voters(3, new int[] {6, 2, 2, 2}, "b>a>c", "a>b>c", "a>b>c", "c>b>a");
        DUE.is("P26: a has 4 + 2: as many as b, but first", x.sure(8, 1), 3);
        DUE.is("P26: none surely", x.sure(8, 0), 0);
        DUE.is("P26: c has 2 + 4: as many as b, not first", x.sure(6, 1), 2);
        DUE.is("P26: all undecided", x.sure(15, 1), 7);
        DUE.is("P26: b undecided: a or c or b", x.sure(1, 1), 7);
        x.guest(0, 0, 7, 1, 1);
        Due.rank(x, 0, "b>a>c");
        DUE.is("P26: b surely, 7 against 6", x.sure(8, 0), 2);
        DUE.is("P26: and none else may", x.sure(8, 1), 2);
        x.guest(3, 3, 0, 1, 1);
        DUE.is("P26: one without BISCUITS", x.sure(8, 1), 2);
    }

    /** "the n-th (1 to 12) told one to the left of a told one (round and round)". */
    private static void leftRoundTheTable() {
        for (int n = 1; n <= 12; n++) {
            TeaCabinet x = new TeaCabinet();
            for (int g = 0; g < n; g++) x.guest(g, (7 + g * (12 / n)) % 12, 1, 1, 1);
            for (int steps = 1; steps <= 12; steps++) {
                DUE.is("P30: " + steps + " of " + n, x.left(0, steps), steps % n);
                DUE.is("P30: from the last, " + steps + " of " + n, x.left(n - 1, steps), (n - 1 + steps) % n);
            }
            int[] wrong = {-1, 0, 13, 24, FAR[0], FAR[1], FAR[2], FAR[3], FAR[4]};
            for (int steps : wrong) DUE.is("P30: " + steps, x.left(0, steps), -1);
        }
    }

    /** "two halves of 6 SEATS on end: the parting (the first SEAT of a half, 0 to 5) ..; of like ones the lowest". */
    private static void partings() {
        for (int seat = 0; seat < 12; seat++) {
            TeaCabinet x = new TeaCabinet();
            x.guest(0, seat, 5, 1, 1);
            x.guest(1, (seat + 1) % 12, 4, 1, 1);
            DUE.is("P31: between " + seat + " and the next", x.parted(0), (seat + 1) % 6);
            DUE.is("P31: 5 against 4", x.parted(1), 1);
            x.guest(1, (seat + 6) % 12, 4, 1, 1);
            DUE.is("P31: always parted: the lowest", x.parted(0), 0);
            DUE.is("P31: 5 against 4 again", x.parted(1), 1);
            TeaCabinet alone = new TeaCabinet();
            alone.guest(0, seat, 20, 1, 1);
            DUE.is("P31: alone: the lowest", alone.parted(0), 0);
            DUE.is("P31: 20 against 0", alone.parted(1), 20);
        }
        TeaCabinet full = new TeaCabinet();
        for (int g = 0; g < 12; g++) full.guest(g, g, 20, 1, 1);
        DUE.is("P31: full", full.parted(0) + full.parted(1), 0);
    }

    /** "told GUESTS of one mind (ranking all alike) are one PARTY", from one PARTY to twelve. */
    private static void parties() {
        String[] minds = {"a>b>c", "a>c>b", "b>a>c", "b>c>a", "c>a>b", "c>b>a", "a=b>c", "a=c>b", "b=c>a", "a>b=c", "b>a=c", "c>a=b"};
        int[] biscuits = new int[12];
        TeaCabinet x = Due.voters(3, biscuits, minds);
        DUE.is("P32: twelve PARTIES", x.alike(100), 12);
        for (int g = 0; g < 12; g++) DUE.is("P32: each alone", x.alike(g), 1 << g);
        x.measures(3);
        DUE.is("P32: one PARTY", x.alike(100), 1);
        for (int g = 0; g < 12; g++) DUE.is("P32: all in one", x.alike(g), 4095);
        Due.rank(x, 4, "b=a>c");
        Due.rank(x, 9, "a=b>c");
        DUE.is("P32: like ones in another row", x.alike(4), 1 << 4 | 1 << 9);
        DUE.is("P32: two PARTIES", x.alike(100), 2);
        DUE.is("P32: the others", x.alike(0), 4095 & ~(1 << 4 | 1 << 9));
        Due.rank(x, 4, "c=b=a");
        DUE.is("P32: all alike, told, is as at first", x.alike(4), 4095 & ~(1 << 9));
    }
}
