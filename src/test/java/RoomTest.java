import java.lang.management.ManagementFactory;

/** All calls of a run live in one room: what an object takes is made with it, calls make nothing. */
public final class RoomTest {
    private static final Due DUE = new Due();

    public static void main(String[] args) {
        run();
        long before = taken();
        TeaCabinet x = new TeaCabinet();
        long made = taken() - before;
        DUE.is("an object takes little: " + made + " bytes", made < 40_000, true);
        before = taken();
        dearCalls(x);
        long more = taken() - before;
        DUE.is("calls take nothing: " + more + " bytes", more < 20_000, true);
        DUE.finish();
    }

    /** Once ahead, so that what the machine itself loads is not counted. */
    private static void run() {
        dearCalls(new TeaCabinet());
    }

    private static long taken() {
        return ((com.sun.management.ThreadMXBean) ManagementFactory.getThreadMXBean()).getCurrentThreadAllocatedBytes();
    }

    private static void dearCalls(TeaCabinet x) {
        x.measures(5);
        for (int g = 0; g < 12; g++) x.guest(g, 11 - g, 20 - g, 99, 9);
        x.mother(0);
        Due.law(x, "e[g*7+c*l+a*b-m/[1+v]]%97(!(g=c|l>9)&t<9999|a<3);k1(1=1);d4(1=1);x(g+c=7|b<0)");
        for (int i = 0; i < 20; i++) {
            Due.rank(x, i % 12, i % 2 == 0 ? "e>d>c>b>a" : "c>a=b>e>d");
            Due.agenda(x, "((((ab)c)d)e)");
            x.teas(60);
            x.tried(60, 3);
            x.end(60, 2);
            for (int k = 0; k < 5; k++) {
                x.orders(k, 0);
                x.wonOver(k, 1);
                x.lie(k, 10);
                x.power(k, 0);
            }
            x.sure(63, 0);
            x.set();
            x.pathWinners();
            x.where(3);
            x.keep();
            x.undo();
        }
    }
}
