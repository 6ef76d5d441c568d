/** What the tests share: telling a wrong answer, and putting texts on a tape. */
final class Due {
    private int wrong;

    void is(String call, long got, long want) {
        if (got == want) return;
        wrong++;
        System.out.println(call + " answered " + got + ", due is " + want);
    }

    void is(String call, boolean got, boolean want) {
        is(call, got ? 1L : 0L, want ? 1L : 0L);
    }

    void finish() {
        System.out.println(wrong == 0 ? "all answers are as due" : wrong + " answers are not as due");
        if (wrong != 0) System.exit(1);
    }

    static void feed(TeaCabinet x, String text) {
        int[] five = new int[5];
        for (int from = 0; from < text.length(); from += 20) {
            for (int k = 0; k < 5; k++) {
                five[k] = 0;
                for (int i = from + 4 * k; i < from + 4 * k + 4; i++) {
                    five[k] = five[k] << 8 | (i < text.length() ? text.charAt(i) : '?');
                }
            }
            x.feed(five[0], five[1], five[2], five[3], five[4]);
        }
    }

    static int law(TeaCabinet x, String text) {
        feed(x, text);
        return x.law(text.length());
    }

    static int rank(TeaCabinet x, int g, String text) {
        feed(x, text);
        return x.ranking(g, text.length());
    }

    static int agenda(TeaCabinet x, String text) {
        feed(x, text);
        return x.agenda(text.length());
    }

    /** GUESTS 0 on with these BISCUITS and RANKINGS, on the SEATS 0 on, with HANDS 99 and MANNERS 5. */
    static TeaCabinet voters(int m, int[] biscuits, String... rankings) {
        TeaCabinet x = new TeaCabinet();
        x.measures(m);
        for (int g = 0; g < biscuits.length; g++) {
            x.guest(g, g, biscuits[g], 99, 5);
            if (!rankings[g].isEmpty() && rank(x, g, rankings[g]) < 0) throw new IllegalStateException(rankings[g]);
        }
        return x;
    }
}
