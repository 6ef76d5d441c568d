/** Promises 9 to 12 and 27 to 29: TEAS, those that are tried, likings, cups and who pours in the end. */
public final class TeaTest {
    private static final Due DUE = new Due();

    public static void main(String[] args) {
        refusedCalls();
        pouring();
        spilling();
        deciding();
        passingThePot();
        triedChangesNothing();
        lastTea();
        likes();
        reckoning();
        cupsAndSeats();
        inTheEnd();
        DUE.finish();
    }

    /** GUESTS 0 to n - 1 on every second SEAT, each with 2 BISCUITS, HANDS 99 and MANNERS 5. */
    private static TeaCabinet table(int n) {
        TeaCabinet x = new TeaCabinet();
        for (int g = 0; g < n; g++) x.guest(g, 2 * g, 2, 99, 5);
        return x;
    }

    private static void refusedCalls() {
        TeaCabinet x = table(2);
        DUE.is("no mother: teas", x.teas(1), -2);
        DUE.is("no mother: tried", x.tried(60, 11), -2);
        DUE.is("no mother: who in the end", x.end(1, 0), -2);
        DUE.is("no mother: how often", x.end(60, 1), -2);
        DUE.is("no mother: decides", x.end(1, 2), -2);
        DUE.is("no mother: teas 0", x.teas(0), -1);
        DUE.is("no mother: end of 0", x.end(0, 1), -1);
        DUE.is("no mother: end of 61", x.end(61, 2), -1);
        DUE.is("no mother: end what 3", x.end(1, 3), -1);
        x.keep();
        x.mother(0);
        DUE.is("a mother: how often", x.end(1, 1), 1);
        x.undo();
        for (int what = 0; what < 3; what++) DUE.is("no mother again: end " + what, x.end(1, what), -2);
        x.mother(0);
        int[] wrong = {0, 61, -1, Integer.MIN_VALUE, Integer.MAX_VALUE};
        for (int n : wrong) {
            DUE.is("teas " + n, x.teas(n), -1);
            DUE.is("tried " + n, x.tried(n, 0), -1);
            DUE.is("end " + n, x.end(n, 0), -1);
        }
        int[] whats = {-1, 4, 9, 12, 22, Integer.MAX_VALUE, Integer.MIN_VALUE};
        for (int what : whats) DUE.is("tried what " + what, x.tried(1, what), -1);
        DUE.is("end what 3", x.end(1, 3), -1);
        DUE.is("end what -1", x.end(1, -1), -1);
        int[] others = {-1, 7, 9, 14, Integer.MIN_VALUE};
        for (int what : others) DUE.is("guestIs what " + what, x.guestIs(0, what), -1);
        DUE.is("guestIs 2", x.guestIs(2, 0), -1);
        DUE.is("the tea", x.count(4), 0);
    }

    private static void pouring() {
        TeaCabinet x = new TeaCabinet();
        x.guest(0, 11, 1, 79, 1);
        x.guest(1, 0, 1, 79, 1);
        x.guest(2, 10, 1, 66, 0);
        x.guest(3, 5, 1, 72, 3);
        x.mother(0);
        Due.law(x, "k7+m(1=1)");
        DUE.is("first to the left", x.cup(1), 80);
        DUE.is("second", x.cup(3), 72);
        DUE.is("third", x.cup(2), 64);
        DUE.is("mother last", x.cup(0), 56);
        DUE.is("teas", x.teas(1), 1);
        DUE.is("burnt", x.guestIs(1, 4), 1);
        DUE.is("manners less", x.guestIs(1, 3), 0);
        DUE.is("hands just bear it", x.guestIs(3, 4), 0);
        x.pot(99, 2);
        x.teas(1);
        DUE.is("burnt again", x.guestIs(1, 4), 2);
        DUE.is("manners 0 at least", x.guestIs(1, 3), 0);
        DUE.is("burnt by 91", x.guestIs(3, 3), 2);
        DUE.is("no cup, no burn", x.guestIs(2, 4), 0);
        DUE.is("mother herself had none", x.guestIs(0, 4), 0);
        DUE.is("poured", x.guestIs(0, 5), 2);
        DUE.is("burns of those that are tried alone", x.tried(3, 3), 6);
    }

    private static void spilling() {
        TeaCabinet x = table(3);
        x.mother(2);
        Due.law(x, "d3(t<1);d2(t<2);d99(1=1);e1(1=1)");
        // X is 39022, then 37935, 51940: the draws are 2, 5, 0
        DUE.is("below 3 is spilt", x.teas(1), 1);
        DUE.is("spilt", x.count(5), 1);
        DUE.is("the next to the left", x.count(2), 0);
        DUE.is("nothing in force", x.count(3), 0);
        DUE.is("who spilt did not pour it out", x.guestIs(2, 5), 0);
        x.keep();
        x.seed(1);
        x.teas(1);
        DUE.is("2 is not below 2", x.count(5), 1);
        DUE.is("it counts", x.guestIs(0, 5), 1);
        DUE.is("in force", x.count(3), 1);
        x.teas(1);
        DUE.is("ten tenths", x.count(5), 2);
        TeaCabinet alone = table(1);
        alone.mother(0);
        Due.law(alone, "d10(1=1)");
        alone.teas(5);
        DUE.is("alone: spilt", alone.count(5), 5);
        DUE.is("alone: mother still", alone.count(2), 0);
        TeaCabinet hot = new TeaCabinet();
        hot.guest(0, 0, 1, 0, 1);
        hot.guest(1, 1, 1, 0, 1);
        hot.mother(0);
        Due.law(hot, "d10*m(1=1)");
        hot.teas(1);
        DUE.is("d is asked ahead of the burns", hot.count(5), 1);
        DUE.is("burnt by spilt tea", hot.guestIs(0, 4), 1);
    }

    private static void deciding() {
        TeaCabinet x = Due.voters(4, new int[] {1}, "c>a=d>b");
        x.mother(0);
        int[] due = {4, 5, 13, 15, 0, 4};
        for (int i = 0; i < due.length; i++) {
            DUE.is("tried " + (i + 1), x.tried(i + 1, 1), due[i]);
        }
        for (int i = 0; i < due.length; i++) {
            x.teas(1);
            DUE.is("in force after " + (i + 1), x.count(3), due[i]);
        }
    }

    private static void passingThePot() {
        TeaCabinet x = new TeaCabinet();
        x.guest(0, 0, 3, 99, 5);
        x.guest(1, 3, 2, 99, 5);
        x.guest(2, 6, 2, 99, 5);
        x.guest(3, 9, 3, 99, 5);
        x.mother(0);
        DUE.is("no law: nobody asked", x.guestIs(0, 6), -2);
        x.teas(1);
        DUE.is("nobody has any: she stays", x.count(2), 0);
        // 0 and 2 ask 3 (5 biscuits); 1 and 3 ask 2 (5 biscuits): 2 is nearer to the left of 0
        Due.law(x, "e1(c=3);e1(g=1&c=2);e1(g=3&c=2)");
        DUE.is("0 asks 3", x.guestIs(0, 6), 3);
        DUE.is("1 asks the lowest of like ones", x.guestIs(1, 6), 2);
        x.teas(1);
        DUE.is("1, 3 ask 2; 0, 2 ask 3: the nearest", x.count(2), 2);
        x.mother(0);
        Due.law(x, "e1(g=1&c=0);e1(g=2&c=0);e1(g=3&c=1);e1(g=0&c=2)");
        x.teas(1);
        DUE.is("mother has most herself", x.count(2), 0);
        Due.law(x, "e1(g=3&c=0);e1(g=0&c=3)");
        x.teas(1);
        DUE.is("mother is the last of like ones", x.count(2), 3);
        x.mother(0);
        x.pot(99, 3);
        x.teas(1);
        DUE.is("without a cup she does not ask", x.count(2), 0);
        x.guest(3, 9, 3, 98, 5);
        x.pot(99, 12);
        x.teas(1);
        DUE.is("who is burnt does not ask", x.count(2), 3);
        TeaCabinet poor = new TeaCabinet();
        poor.guest(0, 0, 0, 99, 5);
        poor.guest(1, 1, 0, 99, 5);
        poor.mother(0);
        Due.law(poor, "e1(1=1)");
        poor.teas(1);
        DUE.is("no biscuits, no mother", poor.count(2), 0);
        TeaCabinet rude = new TeaCabinet();
        rude.guest(0, 0, 1, 99, 5);
        rude.guest(1, 1, 1, 0, 5);
        rude.guest(2, 2, 1, 99, 5);
        rude.mother(0);
        Due.law(rude, "em(g=0)");
        rude.teas(1);
        DUE.is("manners after the burns", rude.count(2), 2);
        TeaCabinet proud = table(2);
        proud.mother(0);
        Due.law(proud, "e1(v+t>0)");
        DUE.is("v and t are those ahead of the tea", proud.tried(1, 0), 0);
        DUE.is("and then they count", proud.tried(2, 0), 1);
    }

    private static void triedChangesNothing() {
        TeaCabinet x = table(3);
        x.guest(3, 11, 5, 10, 9);
        x.mother(0);
        Due.law(x, "d5(1=1);e9-l(1=1);k3(1=1)");
        int[] before = new int[12];
        for (int what = 0; what < 12; what++) before[what] = x.count(what);
        DUE.is("manners then", x.tried(60, 13), 0);
        int spilt = x.tried(60, 2);
        int burns = x.tried(60, 3);
        int mother = x.tried(60, 0);
        x.end(60, 0);
        for (int what = 0; what < 12; what++) DUE.is("nothing is changed: " + what, x.count(what), before[what]);
        DUE.is("no burns: ", x.guestIs(3, 4), 0);
        x.teas(60);
        DUE.is("spilt as tried", x.count(5), spilt);
        DUE.is("burns as tried", x.guestIs(3, 4), burns);
        DUE.is("mother as tried", x.count(2), mother);
        DUE.is("spilt in the further ones", x.tried(1, 2) <= 1 ? 1 : 0, 1);
    }

    private static void lastTea() {
        TeaCabinet x = table(2);
        x.mother(1);
        for (int i = 0; i < 166; i++) x.teas(60);
        DUE.is("the tea", x.count(4), 9960);
        DUE.is("as many as can", x.teas(60), 39);
        DUE.is("9999 at most", x.count(4), 9999);
        int drawn = x.count(10);
        DUE.is("none goes by", x.teas(1), 0);
        DUE.is("nothing is drawn", x.count(10), drawn);
        DUE.is("tried: mother", x.tried(5, 0), 1);
        DUE.is("tried: manners", x.tried(5, 10), 5);
        DUE.is("end: who", x.end(5, 0), -2);
        DUE.is("end: how often", x.end(5, 1), 0);
        DUE.is("end: decides", x.end(5, 2), 0);
        DUE.is("poured", x.guestIs(1, 5), 9999);
    }

    private static void likes() {
        TeaCabinet x = Due.voters(3, new int[] {4, 7, 2}, "a>b>c", "b>a=c", "c>b>a");
        DUE.is("no law", x.likes(0, 1), 0);
        DUE.is("the same", x.likes(0, 0), -1);
        DUE.is("untold", x.likes(0, 3), -1);
        DUE.is("untold asks", x.likes(-1, 0), -1);
        Due.law(x, "e1000*g+100*c+10*l+a(1=1)");
        DUE.is("a: b>c alone", x.likes(0, 1), 111);
        DUE.is("a: none", x.likes(0, 2), 220);
        DUE.is("a: b>a alone, l is 1", x.likes(1, 2), 1211);
        DUE.is("l round the table", x.likes(2, 1), 2211);
        DUE.is("g, c turned", x.likes(1, 0), 1111);
        Due.law(x, "eb*10+m(c=1);ev+t(1=1)");
        DUE.is("b and m of c", x.likes(0, 1), 75);
        DUE.is("v and t 0", x.likes(0, 2), 0);
        x.mother(2);
        x.teas(1);
        DUE.is("v and t 1", x.likes(0, 2), 2);
        Due.law(x, "e5(1=1);x(c=1&g=0);x(l=2)");
        DUE.is("x", x.likes(0, 1), 0);
        DUE.is("any x", x.likes(0, 2), 0);
        DUE.is("no x", x.likes(2, 1), 5);
        DUE.is("asks nobody", x.guestIs(0, 6), -2);
        DUE.is("asks 0", x.guestIs(1, 6), 0);
        Due.law(x, "e12345(c=1);e0-5(c=2);e1(1=1)");
        DUE.is("9999 at most", x.likes(0, 1), 9999);
        DUE.is("0 at least", x.likes(0, 2), 0);
        DUE.is("the first rule that holds", x.likes(1, 0), 1);
    }

    private static void reckoning() {
        TeaCabinet x = table(2);
        Object[][] due = {{"e7-2-1(1=1)", 4}, {"e2+3*4(1=1)", 14}, {"e[2+3]*4(1=1)", 20}, {"e17/5*5%4(1=1)", 3},
            {"e[0-7]/2+9(1=1)", 6}, {"e[0-7]%4+9(1=1)", 6}, {"e99999*99999(1=1)", 9999}, {"e99999*99999/99999(1=1)", 9999},
            {"e50000*50000(1=1)", 0}, {"e0-[50000*50000]/1000(1=1)", 9999}, {"e1/0+5(1=1)", 0}, {"e1%0+5(1=1)", 0},
            {"e1(1/0=0);e2(1=1)", 2}, {"e1(1=1|1/0=0);e2(1=1)", 1}, {"e1(1/0=0|1=1);e2(1=1)", 2},
            {"e1(1=2&1/0=0|1=1);e2(1=1)", 1}, {"e1(!1/0=0);e2(1=1)", 2}, {"e1(!(1/0=0));e2(1=1)", 2},
            {"e1((1%0=0)|1=1);e2(1=1)", 2}, {"e1(1<2&2>1&!1>2);e2(1=1)", 1}, {"e1(1=2|2=2&3=4|5=5);e2(1=1)", 1},
            {"e1(1=1|2=2&3=4);e2(1=1)", 1}, {"e1((1=1|2=2)&3=4);e2(1=1)", 2}, {"e1(!1=1|2=2);e2(1=1)", 1},
            {"e1(!(1=1|2=2));e2(1=1)", 2}, {"e1(!!1=1);e2(1=1)", 1}, {"e1(0-1<0);e2(1=1)", 1},
            {"e1([65536*32768+[65536*32768-1]+1]/[0-1]<0);e2(1=1)", 2}, {"e1([65536*32768]/[0-1]<0);e2(1=1)", 1},
            {"e1([65536*32768]%[0-1]=0);e2(1=1)", 1}, {"e1(1=2);e0(1=1);e3(1=1)", 0}, {"e00042(1=1)", 42},
            {"e5(1=1);x(1/0=0)", 5}, {"e5(1=1);x(1=1|1/0=0)", 0}, {"d5(1=1);k3(1=1)", 0}};
        for (Object[] d : due) {
            DUE.is("rules of " + d[0], Due.law(x, (String) d[0]) > 0 ? 1 : 0, 1);
            DUE.is((String) d[0], x.likes(0, 1), (int) d[1]);
        }
    }

    private static void cupsAndSeats() {
        TeaCabinet x = new TeaCabinet();
        DUE.is("untold cup", x.cup(0), -1);
        DUE.is("untold where", x.where(0), -1);
        x.guest(0, 4, 6, 99, 5);
        x.guest(1, 5, 1, 70, 5);
        x.guest(2, 9, 1, 50, 5);
        x.guest(3, 2, 1, 9, 5);
        DUE.is("no mother: cup", x.cup(1), -3);
        DUE.is("no mother: where", x.where(1), -3);
        x.mother(0);
        Due.law(x, "k2*b-2+c+l+a(g=0)");
        DUE.is("likes nobody", x.likes(3, 2), 0);
        DUE.is("k by mother; c, l, a are 0", x.cup(2), 70);
        DUE.is("mother's cup", x.cup(0), 50);
        DUE.is("mother herself", x.where(0), -2);
        DUE.is("1 behind 2 (9): 10, 11, 0, 1; the lowest", x.where(1), 0);
        DUE.is("2 gets 60 at the best", x.where(2), -2);
        DUE.is("3 nowhere", x.where(3), -2);
        x.guest(2, 9, 1, 80, 5);
        DUE.is("2 behind 1 (5), ahead of 3 (2): the lowest", x.where(2), 0);
        Due.law(x, "k99(1=1)");
        DUE.is("k 20 at most", x.cup(3), 40);
        x.pot(30, 12);
        DUE.is("0 at least", x.cup(3), 0);
        DUE.is("her own seat is one of like ones", x.where(3), 0);
        x.pot(30, 2);
        DUE.is("no cup", x.cup(3), -2);
        DUE.is("no cup for mother", x.cup(0), -2);
        DUE.is("no cup, no seat: the second is too hot", x.where(3), -2);
        x.guest(3, 2, 1, 10, 5);
        DUE.is("the second cup", x.where(3), 6);
        x.pot(10, 0);
        DUE.is("no cups at all", x.where(1), -2);
    }

    private static void inTheEnd() {
        TeaCabinet x = table(3);
        x.mother(1);
        DUE.is("alone all the time", x.end(60, 0), 1);
        DUE.is("how often", x.end(60, 1), 60);
        DUE.is("decides", x.end(60, 2), 60);
        Due.law(x, "d10(1=1)");
        DUE.is("of like ones the lowest", x.end(3, 0), 0);
        DUE.is("1, 2: of like ones", x.end(2, 0), 1);
        DUE.is("four: 1 twice", x.end(4, 0), 1);
        DUE.is("twice", x.end(4, 1), 2);
        DUE.is("never decides", x.end(4, 2), 0);
        Due.law(x, "d10(g=1&t<1);d10(g=0&t>2);e1(g=2)");
        DUE.is("1 spills, 2 decides, ...", x.end(1, 2), 0);
        DUE.is("one tea", x.end(1, 1), 1);
    }
}
