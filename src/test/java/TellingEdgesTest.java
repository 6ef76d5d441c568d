/** The edges of what is told, kept and counted: promises 1 to 5 and 33 to 37. */
public final class TellingEdgesTest {
    private static final int[] FAR = {Integer.MIN_VALUE, Integer.MIN_VALUE + 1, -1000, 1000, Integer.MAX_VALUE};
    private static final Due DUE = new Due();

    public static void main(String[] args) {
        aNewObject();
        objectsOfTheirOwn();
        boundsOfMeasures();
        measuresToldAnew();
        boundsOfAGuest();
        aFullTable();
        aGuestToldAnew();
        boundsOfThePot();
        mothers();
        boundsOfTheSeed();
        theSeedWrapsRound();
        nothingKept();
        keptAndUndone();
        whatIsNotKept();
        boundsOfCheck();
        firstThatIsNotSo();
        boundsOfCount();
        theLastCall();
        DUE.finish();
    }

    /** "Four MEASURES, no GUESTS, LAW; THE SEED 1." and all that is told as "at first". */
    private static void aNewObject() {
        TeaCabinet x = new TeaCabinet();
        DUE.is("P1: M", x.count(0), 4);
        DUE.is("P1: told", x.count(1), 0);
        DUE.is("P1: MOTHER is nobody", x.count(2), -2);
        DUE.is("P1: nothing in force", x.count(3), 0);
        DUE.is("P1: THE TEA", x.count(4), 0);
        DUE.is("P1: SPILT", x.count(5), 0);
        DUE.is("P1: HEAT", x.count(6), 80);
        DUE.is("P1: CUPS", x.count(7), 12);
        DUE.is("P1: RULES", x.count(8), 0);
        DUE.is("P1: the tape", x.count(9), 0);
        DUE.is("P1: X", x.count(10), 1);
        DUE.is("P1: BISCUITS", x.count(11), 0);
        for (int g = 0; g < 12; g++) DUE.is("P1: no GUEST " + g, x.guestIs(g, 0), -1);
        DUE.is("P1: a letter d", Due.agenda(x, "d"), 3);
        DUE.is("P1: no letter e", Due.agenda(x, "e"), -1000);
        DUE.is("P1: nothing KEPT", x.undo(), false);
        x.guest(0, 0, 1, 79, 1);
        x.guest(1, 1, 1, 80, 1);
        for (int i = 0; i < 4; i++) DUE.is("P1: all alike at first", x.guestIs(0, 10 + i), 0);
        DUE.is("P1: without a LAW e is 0", x.likes(0, 1), 0);
        x.mother(0);
        DUE.is("P1: without a LAW k is 0", x.cup(0), 80);
        DUE.is("P1: without a LAW d is 0", x.tried(60, 2), 0);
        x.teas(1);
        DUE.is("P1: the first DRAW from 1", x.count(10), 39022);
    }

    /** "All memory is the table's own." */
    private static void objectsOfTheirOwn() {
        TeaCabinet x = new TeaCabinet();
        TeaCabinet y = new TeaCabinet();
        x.measures(2);
        x.guest(0, 0, 5, 5, 5);
        x.mother(0);
        x.pot(1, 1);
        x.seed(5);
        Due.law(x, "e1(1=1)");
        x.keep();
        x.teas(3);
        x.feed(1, 2, 3, 4, 5);
        int[] first = {4, 0, -2, 0, 0, 0, 80, 12, 0, 0, 1, 0};
        for (int what = 0; what < 12; what++) DUE.is("another object: count " + what, y.count(what), first[what]);
        DUE.is("another object: nothing KEPT", y.undo(), false);
    }

    /** "(2 to 6)", "false: no such number". */
    private static void boundsOfMeasures() {
        TeaCabinet x = new TeaCabinet();
        for (int m = 2; m <= 6; m++) {
            DUE.is("P2: " + m, x.measures(m), true);
            DUE.is("P2: M is " + m, x.count(0), m);
            DUE.is("P2: the last one of " + m, x.firsts(m - 1), 0);
            DUE.is("P2: one beyond " + m, x.firsts(m), -1);
        }
        int[] wrong = {1, 0, -1, 7};
        for (int m : wrong) DUE.is("P2: " + m, x.measures(m), false);
        for (int m : FAR) DUE.is("P2: " + m, x.measures(m), false);
        DUE.is("P2: refused, M stays", x.count(0), 6);
    }

    /** "all RANKINGS are all alike, none is in force, nothing is KEPT", also with the same number. */
    private static void measuresToldAnew() {
        for (int m = 2; m <= 6; m++) {
            TeaCabinet x = Due.voters(4, new int[] {1, 1, 1}, "d>c>b>a", "d>c>b>a", "d=c>b=a");
            x.mother(0);
            x.teas(2);
            x.keep();
            DUE.is("P2: refused", x.measures(7), false);
            DUE.is("P2: refused, in force", x.count(3), 12);
            DUE.is("P2: refused, ranked", x.guestIs(1, 10), 3);
            DUE.is("P2: refused, still KEPT", x.undo(), true);
            DUE.is("P2: anew", x.measures(m), true);
            DUE.is("P2: none in force", x.count(3), 0);
            for (int g = 0; g < 3; g++) {
                for (int i = 0; i < m; i++) DUE.is("P2: all alike", x.guestIs(g, 10 + i), 0);
            }
            DUE.is("P2: one mind", x.alike(100), 1);
            DUE.is("P2: nothing KEPT", x.undo(), false);
            DUE.is("P2: GUESTS stay", x.count(1), 7);
            DUE.is("P2: MOTHER stays", x.count(2), 0);
            DUE.is("P2: THE TEA stays", x.count(4), 2);
            DUE.is("P2: POURED stays", x.guestIs(0, 5), 2);
            DUE.is("P2: KEPT anew", x.keep(), 2);
            DUE.is("P2: and undone", x.undo(), true);
        }
    }

    /** Each number at its least and its most, and one beyond both. */
    private static void boundsOfAGuest() {
        int[] most = {11, 11, 20, 99, 9};
        for (int at = 0; at < 5; at++) {
            int[] wrong = {-1, most[at] + 1, FAR[0], FAR[1], FAR[2], FAR[3], FAR[4]};
            int[] told = {3, 4, 5, 6, 7};
            for (int number : wrong) {
                TeaCabinet x = new TeaCabinet();
                told[at] = number;
                DUE.is("P3: " + number + " at place " + at, x.guest(told[0], told[1], told[2], told[3], told[4]), false);
                DUE.is("P3: nobody is told", x.count(1), 0);
            }
            for (int number = 0; number <= most[at]; number++) {
                TeaCabinet x = new TeaCabinet();
                told[at] = number;
                DUE.is("P3: " + number + " at place " + at, x.guest(told[0], told[1], told[2], told[3], told[4]), true);
                DUE.is("P3: told", x.count(1), 1 << told[0]);
                for (int what = 0; what < 4; what++) DUE.is("P3: what " + what, x.guestIs(told[0], what), told[what + 1]);
                DUE.is("P3: BURNT", x.guestIs(told[0], 4), 0);
                DUE.is("P3: POURED", x.guestIs(told[0], 5), 0);
            }
        }
    }

    /** "another one has that SEAT", when all SEATS are taken. */
    private static void aFullTable() {
        TeaCabinet x = new TeaCabinet();
        for (int g = 0; g < 12; g++) DUE.is("P3: guest " + g, x.guest(g, 11 - g, g, g, 1), true);
        DUE.is("P3: all told", x.count(1), 4095);
        for (int g = 0; g < 12; g++) {
            DUE.is("P3: the SEAT of the next one", x.guest(g, (12 - g) % 12, 20, 20, 2), false);
            DUE.is("P3: refused, the SEAT stays", x.guestIs(g, 0), 11 - g);
            DUE.is("P3: refused, BISCUITS stay", x.guestIs(g, 1), g);
            DUE.is("P3: the own SEAT", x.guest(g, 11 - g, g, g, 3), true);
            DUE.is("P3: in place of the one before", x.guestIs(g, 3), 3);
        }
    }

    /** "in place of the one before; BURNT, POURED 0, all alike": the old SEAT is free then. */
    private static void aGuestToldAnew() {
        TeaCabinet x = Due.voters(4, new int[] {1, 1}, "d>c>b>a", "d>c>b>a");
        x.guest(1, 1, 1, 0, 9);
        Due.rank(x, 1, "d>c>b>a");
        x.mother(1);
        x.teas(2);
        DUE.is("P3: BURNT ahead", x.guestIs(1, 4), 2);
        DUE.is("P3: POURED ahead", x.guestIs(1, 5), 2);
        DUE.is("P3: refused", x.guest(1, 0, 1, 0, 9), false);
        DUE.is("P3: refused, BURNT stays", x.guestIs(1, 4), 2);
        DUE.is("P3: refused, POURED stays", x.guestIs(1, 5), 2);
        DUE.is("P3: refused, MANNERS stay", x.guestIs(1, 3), 7);
        DUE.is("P3: refused, RANKING stays", x.guestIs(1, 10), 3);
        DUE.is("P3: anew on another SEAT", x.guest(1, 7, 2, 3, 4), true);
        DUE.is("P3: BURNT 0", x.guestIs(1, 4), 0);
        DUE.is("P3: POURED 0", x.guestIs(1, 5), 0);
        for (int i = 0; i < 4; i++) DUE.is("P3: all alike", x.guestIs(1, 10 + i), 0);
        DUE.is("P3: another one's RANKING stays", x.guestIs(0, 10), 3);
        DUE.is("P3: she is MOTHER still", x.count(2), 1);
        DUE.is("P3: nobody sits on the old SEAT", x.left(0, 1), 1);
        DUE.is("P3: the old SEAT is free", x.guest(5, 1, 0, 0, 0), true);
        DUE.is("P3: and taken then", x.guest(1, 1, 0, 0, 0), false);
    }

    private static void boundsOfThePot() {
        TeaCabinet x = new TeaCabinet();
        for (int heat = 0; heat <= 99; heat++) DUE.is("P4: HEAT " + heat, x.pot(heat, 5) && x.count(6) == heat, true);
        for (int cups = 0; cups <= 12; cups++) DUE.is("P4: CUPS " + cups, x.pot(50, cups) && x.count(7) == cups, true);
        int[][] wrong = {{-1, 5}, {100, 5}, {5, -1}, {5, 13}, {100, 13}, {-1, -1}};
        for (int[] w : wrong) DUE.is("P4: " + w[0] + ", " + w[1], x.pot(w[0], w[1]), false);
        for (int far : FAR) DUE.is("P4: " + far, x.pot(far, 5) || x.pot(5, far), false);
        DUE.is("P4: refused, HEAT stays", x.count(6), 50);
        DUE.is("P4: refused, CUPS stay", x.count(7), 12);
    }

    /** "MOTHER is a told GUEST: true; false: no such one." */
    private static void mothers() {
        TeaCabinet x = new TeaCabinet();
        for (int g = -1; g <= 12; g++) DUE.is("P5: nobody is told " + g, x.mother(g), false);
        DUE.is("P5: still nobody", x.count(2), -2);
        x.guest(0, 5, 0, 0, 0);
        x.guest(11, 6, 0, 0, 0);
        DUE.is("P5: guest 0", x.mother(0), true);
        DUE.is("P5: MOTHER 0", x.count(2), 0);
        DUE.is("P5: guest 11", x.mother(11), true);
        DUE.is("P5: MOTHER 11", x.count(2), 11);
        DUE.is("P5: again", x.mother(11), true);
        int[] wrong = {-2, -1, 1, 10, 12, 32, 43};
        for (int g : wrong) DUE.is("P5: " + g, x.mother(g), false);
        for (int g : FAR) DUE.is("P5: " + g, x.mother(g), false);
        DUE.is("P5: refused, MOTHER stays", x.count(2), 11);
    }

    private static void boundsOfTheSeed() {
        TeaCabinet x = new TeaCabinet();
        int[] right = {0, 1, 32767, 32768, 65535};
        for (int seed : right) DUE.is("P33: " + seed, x.seed(seed) && x.count(10) == seed, true);
        int[] wrong = {-1, 65536, 131071};
        for (int seed : wrong) DUE.is("P33: " + seed, x.seed(seed), false);
        DUE.is("P33: least of all", x.seed(Integer.MIN_VALUE) || x.seed(Integer.MAX_VALUE), false);
        DUE.is("P33: refused, X stays", x.count(10), 65535);
    }

    /** "X = (25173 X + 13849) modulo 65536", from each end of the numbers. */
    private static void theSeedWrapsRound() {
        TeaCabinet x = new TeaCabinet();
        x.guest(0, 0, 0, 99, 0);
        x.mother(0);
        int[] seeds = {0, 1, 2, 32767, 32768, 65534, 65535};
        for (int seed : seeds) {
            x.seed(seed);
            long drawn = seed;
            for (int i = 0; i < 5; i++) {
                x.teas(1);
                drawn = (25173L * drawn + 13849L) % 65536L;
                DUE.is("DRAWS from " + seed, x.count(10), drawn);
            }
        }
    }

    /** "false: none is KEPT." */
    private static void nothingKept() {
        TeaCabinet x = Due.voters(2, new int[] {1}, "b>a");
        x.mother(0);
        x.teas(1);
        DUE.is("P35: never KEPT", x.undo(), false);
        DUE.is("P35: refused, THE TEA stays", x.count(4), 1);
        DUE.is("P35: refused, in force", x.count(3), 2);
        DUE.is("P35: refused, RANKING", x.guestIs(0, 10), 1);
        x.keep();
        x.measures(2);
        DUE.is("P35: forgotten with M", x.undo(), false);
    }

    /** "KEPT: GUESTS, MOTHER, MEASURES in force, THE TEA, SPILT, X (RANKINGS, too); UNDONE: as they were KEPT last". */
    private static void keptAndUndone() {
        TeaCabinet x = Due.voters(3, new int[] {4, 2}, "c>b>a", "b=a>c");
        x.guest(2, 2, 3, 0, 9);
        x.mother(0);
        Due.law(x, "d10(t=1);e1(c=1)");
        x.teas(2);
        DUE.is("P34: keep", x.keep(), 2);
        int[] then = {3, 7, 2, 4, 2, 1, 80, 12, 2, 0, x.count(10), 9};
        int[] second = {2, 3, 0, 7, 2, 0};
        for (int round = 0; round < 2; round++) {
            x.teas(5);
            x.guest(0, 9, 1, 1, 1);
            x.guest(7, 0, 1, 1, 1);
            Due.rank(x, 1, "a>b>c");
            x.mother(7);
            x.seed(9);
            DUE.is("P35: undo " + round, x.undo(), true);
            for (int what = 0; what < 12; what++) DUE.is("P35: count " + what, x.count(what), then[what]);
            for (int what = 0; what < 6; what++) DUE.is("P35: guest 2, " + what, x.guestIs(2, what), second[what]);
            DUE.is("P35: POURED", x.guestIs(0, 5), 1);
            DUE.is("P35: the RANKING of 0", x.guestIs(0, 10), 2);
            DUE.is("P35: the RANKING of 1", x.guestIs(1, 12), 2);
            DUE.is("P35: 7 is not told", x.guestIs(7, 0), -1);
            DUE.is("P35: 0 sits there again", x.left(2, 1), 0);
            DUE.is("P35: its SEAT is taken", x.guest(7, 0, 1, 1, 1), false);
        }
        x.teas(3);
        DUE.is("P34: keep anew", x.keep(), 5);
        x.teas(3);
        x.undo();
        DUE.is("P35: as KEPT last", x.count(4), 5);
    }

    /** THE POT, THE LAW and the tape are not among what is KEPT. */
    private static void whatIsNotKept() {
        TeaCabinet x = Due.voters(2, new int[] {1, 1}, "", "");
        x.keep();
        x.pot(1, 2);
        Due.law(x, "e3(1=1)");
        x.feed(0, 0, 0, 0, 0);
        x.undo();
        DUE.is("P35: HEAT", x.count(6), 1);
        DUE.is("P35: CUPS", x.count(7), 2);
        DUE.is("P35: RULES", x.count(8), 1);
        DUE.is("P35: the tape", x.count(9), 20);
        DUE.is("P35: e", x.likes(0, 1), 3);
        x.guest(0, 0, 1, 99, 9);
        DUE.is("P34: keep leaves the tape", x.keep() == 0 && x.count(9) == 20, true);
    }

    /** "(0 to 12; empty then ..)", "-2: no such n, it has not so many (the tape stays)". */
    private static void boundsOfCheck() {
        TeaCabinet x = new TeaCabinet();
        DUE.is("P36: 0 of an empty tape", x.check(0), -1);
        for (int n = 1; n <= 12; n++) DUE.is("P36: " + n + " of an empty tape", x.check(n), -2);
        x.feed(0, 0, 0, 0, 0);
        int[] wrong = {-1, 13, 20, 21};
        for (int n : wrong) DUE.is("P36: " + n, x.check(n), -2);
        for (int n : FAR) DUE.is("P36: " + n, x.check(n), -2);
        DUE.is("P36: the tape stays", x.count(9), 20);
        for (int n = 0; n <= 12; n++) {
            x.feed(0, 0, 0, 0, 0);
            DUE.is("P36: nobody told, " + n, x.check(n), -1);
            DUE.is("P36: empty then, " + n, x.count(9), 0);
        }
    }

    /** "the place of the first one that is not so", "of GUESTS that are not told 0". */
    private static void firstThatIsNotSo() {
        TeaCabinet x = new TeaCabinet();
        for (int g = 0; g < 12; g += 2) x.guest(g, g, 0, 0, g % 10);
        for (int wrong = 0; wrong < 12; wrong++) {
            StringBuilder manners = new StringBuilder();
            for (int g = 0; g < 12; g++) manners.append((char) (g % 2 == 0 ? g % 10 : 0));
            for (int g = wrong; g < 12; g++) manners.setCharAt(g, (char) (manners.charAt(g) + 1));
            Due.feed(x, manners.toString());
            DUE.is("P36: from " + wrong + " on", x.check(12), wrong);
            DUE.is("P36: empty then", x.count(9), 0);
            Due.feed(x, manners.toString());
            DUE.is("P36: just ahead of " + wrong, x.check(wrong), -1);
            Due.feed(x, manners.toString());
            DUE.is("P36: just with " + wrong, x.check(wrong + 1), wrong);
        }
    }

    /** "NONE for others." */
    private static void boundsOfCount() {
        TeaCabinet x = new TeaCabinet();
        int[] wrong = {-2, -1, 12, 13, 100};
        for (int what : wrong) DUE.is("P37: " + what, x.count(what), -1);
        for (int what : FAR) DUE.is("P37: " + what, x.count(what), -1);
        for (int g = 0; g < 12; g++) {
            x.guest(g, g, 20, 0, 0);
            DUE.is("P37: told", x.count(1), (2 << g) - 1);
            DUE.is("P37: BISCUITS of all", x.count(11), 20 * (g + 1));
        }
        x.guest(11, 11, 0, 0, 0);
        DUE.is("P37: of those told anew just the new ones", x.count(11), 220);
    }

    /** "An object is used for at most 512 calls": the last one of them is answered as all others. */
    private static void theLastCall() {
        TeaCabinet x = Due.voters(4, new int[] {3}, "b>a>c>d");
        x.mother(0);
        for (int call = 6; call < 512; call++) x.teas(1);
        DUE.is("the 512th call", x.count(4), 506);
    }
}
