import java.util.function.ToIntFunction;

/** "A call that is refused (NONE, false) changes nothing but the tape, where it is told.": each kind of them, and each question. */
public final class RefusedTest {
    private static final Due DUE = new Due();
    private static final String LAW = "e9(c=1);e4(1=1)";

    private record Call(String name, int due, ToIntFunction<TeaCabinet> made) { }

    public static void main(String[] args) {
        for (Call call : REFUSED) changesNothing(call);
        for (Call call : ASKED) changesNothing(call);
        for (Call call : FAULTS) changesButTheTape(call);
        fullTape();
        noSuchMany();
        DUE.finish();
    }

    private static int bit(boolean answer) {
        return answer ? 1 : 0;
    }

    private static final Call[] REFUSED = {
        new Call("measures 1", 0, x -> bit(x.measures(1))), new Call("measures 7", 0, x -> bit(x.measures(7))),
        new Call("guest -1", 0, x -> bit(x.guest(-1, 9, 1, 1, 1))), new Call("guest 12", 0, x -> bit(x.guest(12, 9, 1, 1, 1))),
        new Call("seat -1", 0, x -> bit(x.guest(0, -1, 1, 1, 1))), new Call("seat 12", 0, x -> bit(x.guest(0, 12, 1, 1, 1))),
        new Call("biscuits -1", 0, x -> bit(x.guest(0, 9, -1, 1, 1))), new Call("biscuits 21", 0, x -> bit(x.guest(0, 9, 21, 1, 1))),
        new Call("hands -1", 0, x -> bit(x.guest(0, 9, 1, -1, 1))), new Call("hands 100", 0, x -> bit(x.guest(0, 9, 1, 100, 1))),
        new Call("manners -1", 0, x -> bit(x.guest(0, 9, 1, 1, -1))), new Call("manners 10", 0, x -> bit(x.guest(0, 9, 1, 1, 10))),
        new Call("a told one to a taken seat", 0, x -> bit(x.guest(0, 11, 1, 1, 1))),
        new Call("a new one to a taken seat", 0, x -> bit(x.guest(5, 11, 1, 1, 1))),
        new Call("heat -1", 0, x -> bit(x.pot(-1, 1))), new Call("heat 100", 0, x -> bit(x.pot(100, 1))),
        new Call("cups -1", 0, x -> bit(x.pot(1, -1))), new Call("cups 13", 0, x -> bit(x.pot(1, 13))),
        new Call("mother untold", 0, x -> bit(x.mother(3))), new Call("mother -1", 0, x -> bit(x.mother(-1))),
        new Call("mother 12", 0, x -> bit(x.mother(12))), new Call("seed -1", 0, x -> bit(x.seed(-1))),
        new Call("seed 65536", 0, x -> bit(x.seed(65536))),
        new Call("law 0", -1, x -> x.law(0)), new Call("law 21", -1, x -> x.law(21)), new Call("law 241", -1, x -> x.law(241)),
        new Call("ranking of nobody", -1, x -> x.ranking(3, 7)), new Call("ranking 0", -1, x -> x.ranking(0, 0)),
        new Call("ranking 21", -1, x -> x.ranking(0, 21)), new Call("ranking 41", -1, x -> x.ranking(0, 41)),
        new Call("agenda 0", -1, x -> x.agenda(0)), new Call("agenda 21", -1, x -> x.agenda(21)),
        new Call("agenda 61", -1, x -> x.agenda(61)), new Call("check -1", -2, x -> x.check(-1)),
        new Call("check 13", -2, x -> x.check(13)), new Call("teas 0", -1, x -> x.teas(0)), new Call("teas 61", -1, x -> x.teas(61)),
        new Call("tried 0", -1, x -> x.tried(0, 0)), new Call("tried 61", -1, x -> x.tried(61, 0)),
        new Call("tried what 4", -1, x -> x.tried(60, 4)), new Call("end 61", -1, x -> x.end(61, 0)),
        new Call("end what 3", -1, x -> x.end(60, 3)), new Call("lie of nobody", -1, x -> x.lie(3, 10)),
        new Call("sure of nobody", -1, x -> x.sure(8, 0)), new Call("orders of nothing", -1, x -> x.orders(3, 10)),
        new Call("wonOver of nothing", -1, x -> x.wonOver(3, 0)), new Call("runOff 2", -1, x -> x.runOff(2))};

    private static final Call[] ASKED = {
        new Call("tried mother", 1, x -> x.tried(60, 0)), new Call("tried in force", 3, x -> x.tried(1, 1)),
        new Call("tried spilt", 0, x -> x.tried(60, 2)), new Call("tried burnt", 60, x -> x.tried(60, 3)),
        new Call("tried manners", 0, x -> x.tried(60, 12)), new Call("end", 1, x -> x.end(60, 0)), new Call("where", 2, x -> x.where(0)),
        new Call("cup", 80, x -> x.cup(2)), new Call("likes", 9, x -> x.likes(0, 1)), new Call("asks", 1, x -> x.guestIs(0, 6)),
        new Call("pair", 7, x -> x.pair(2, 0)), new Call("firsts", 2, x -> x.firsts(10)), new Call("points", 2, x -> x.points(10)),
        new Call("runOff", 2, x -> x.runOff(10)), new Call("best", 2, x -> x.best()), new Call("set", 4, x -> x.set()),
        new Call("widest", 7, x -> x.widest(2, 0)), new Call("pathWinners", 4, x -> x.pathWinners()),
        new Call("orders", 6, x -> x.orders(2, 10)), new Call("power", 2, x -> x.power(0, 0)), new Call("wonOver", 1, x -> x.wonOver(0, 0)),
        new Call("lie", 0, x -> x.lie(1, 10)), new Call("sure", 7, x -> x.sure(7, 1)), new Call("left", 1, x -> x.left(0, 1)),
        new Call("parted", 0, x -> x.parted(0)), new Call("alike", 2, x -> x.alike(100))};

    private static final Call[] FAULTS = {
        new Call("a fault in a law", -1009, x -> x.law(9)), new Call("a fault in a ranking", -1000, x -> x.ranking(0, 9)),
        new Call("a fault in an agenda", -1000, x -> x.agenda(9)), new Call("what is not so", 0, x -> x.check(12)),
        new Call("none asked", -1, x -> x.check(0))};

    /** M 3, GUESTS 0, 1, 2, a LAW, a MOTHER, one TEA gone by since it was KEPT, and a law on the tape. */
    private static TeaCabinet table() {
        TeaCabinet x = Due.voters(3, new int[] {4, 2, 3}, "c>b>a", "b=a>c", "c>b>a");
        x.guest(2, 11, 3, 10, 3);
        Due.rank(x, 2, "c>b>a");
        Due.law(x, "e9(c=1);e4(1=1);k3(1=1);d1(g=0)");
        x.pot(80, 11);
        x.seed(7);
        x.keep();
        x.mother(1);
        x.teas(1);
        Due.feed(x, LAW);
        return x;
    }

    /** All that can be asked without changing anything, in a row. */
    private static String told(TeaCabinet x, boolean tape) {
        StringBuilder all = new StringBuilder();
        for (int what = 0; what < 12; what++) {
            if (what != 9 || tape) all.append(x.count(what)).append(' ');
        }
        for (int g = -1; g < 13; g++) {
            if (x.guestIs(g, 0) == -1) continue;
            for (int what = 0; what < 7; what++) all.append(x.guestIs(g, what)).append(' ');
            for (int i = 0; i < 3; i++) all.append(x.guestIs(g, 10 + i)).append(' ');
            for (int c = 0; c < 3; c++) all.append(x.likes(g, c)).append(' ');
            all.append(x.cup(g)).append(' ').append(x.left(g, 1)).append(' ');
        }
        return all.toString();
    }

    private static void changesNothing(Call call) {
        TeaCabinet x = table();
        String before = told(x, true);
        DUE.is(call.name, call.made.applyAsInt(x), call.due);
        DUE.is("nothing is changed by " + call.name, told(x, true).equals(before), true);
        DUE.is("the tape has its bytes after " + call.name, x.law(LAW.length()), 2);
        DUE.is("and the law is by them after " + call.name, x.likes(2, 0), 4);
        DUE.is("still KEPT after " + call.name, x.undo(), true);
        DUE.is("as it was KEPT after " + call.name, x.count(4) == 0 && x.count(2) == -2 && x.count(10) == 7, true);
    }

    private static void changesButTheTape(Call call) {
        TeaCabinet x = table();
        String before = told(x, false);
        DUE.is(call.name, call.made.applyAsInt(x), call.due);
        DUE.is("the tape is empty by " + call.name, x.count(9), 0);
        DUE.is("nothing else is changed by " + call.name, told(x, false).equals(before), true);
        DUE.is("still KEPT after " + call.name, x.undo(), true);
    }

    private static void fullTape() {
        TeaCabinet x = table();
        for (int k = 2; k <= 13; k++) x.feed(-1, -1, -1, -1, -1);
        String before = told(x, true);
        DUE.is("a full tape", x.feed(0, 0, 0, 0, 0), -1);
        DUE.is("nothing is changed by a full tape", told(x, true).equals(before), true);
        DUE.is("its first bytes are as they were", x.law(LAW.length()), 2);
    }

    private static void noSuchMany() {
        TeaCabinet x = table();
        x.law(1);
        String before = told(x, true);
        DUE.is("law of an empty tape", x.law(1), -1);
        DUE.is("ranking of an empty tape", x.ranking(0, 1), -1);
        DUE.is("agenda of an empty tape", x.agenda(1), -1);
        DUE.is("check of an empty tape", x.check(1), -2);
        DUE.is("nothing is changed by an empty tape", told(x, true).equals(before), true);
    }
}
