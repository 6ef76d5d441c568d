/** The edges of the texts (THE LAW, RANKINGS, AGENDAS) and of the tape: promises 6, 7, 8, 21 and their terms. */
public final class TextEdgesTest {
    private static final String FACTS = "gclabmvt";
    private static final String DIGITS = "0123456789";
    private static final String SIGNS = "+-*/%";
    private static final Due DUE = new Due();

    public static void main(String[] args) {
        tapeIsFull();
        tapeBytes();
        lengthsOfLaws();
        lengthsOfRankings();
        lengthsOfAgendas();
        bytesThatCanStandInALaw();
        bytesThatCanStandInARanking();
        bytesThatCanStandInAnAgenda();
        theEndAnywhere();
        blanksAnywhere();
        digits();
        rules();
        depthOfALaw();
        depthThatEnds();
        depthOfAnAgenda();
        lettersByM();
        theFirstFaultFromTheLeft();
        faultsLeaveTheOneBefore();
        DUE.finish();
    }

    /** "NONE if that would be more than 260." */
    private static void tapeIsFull() {
        TeaCabinet x = new TeaCabinet();
        for (int k = 1; k <= 13; k++) DUE.is("P6: feed " + k, x.feed(k, k, k, k, k), 20 * k);
        DUE.is("P6: more than 260", x.feed(1, 2, 3, 4, 5), -1);
        DUE.is("P6: refused, the tape stays", x.count(9), 260);
        DUE.is("P6: refused again", x.feed(0, 0, 0, 0, 0), -1);
        DUE.is("P7: a fault empties a full tape", x.law(1), -1000);
        DUE.is("P6: empty then", x.count(9), 0);
        DUE.is("P6: there is room again", x.feed(1, 2, 3, 4, 5), 20);
    }

    /** "the highest of each int first", also of ints below 0; bytes are 0 to 255. */
    private static void tapeBytes() {
        TeaCabinet x = new TeaCabinet();
        for (int g = 0; g < 12; g++) x.guest(g, g, 0, 0, g % 10);
        x.feed(0x00010203, 0x04050607, 0x08090001, -1, Integer.MIN_VALUE);
        DUE.is("P6: bytes in their order", x.check(12), -1);
        x.feed(0x000102ff, 0, 0, 0, 0);
        DUE.is("P6: a byte 255", x.check(4), 3);
        x.feed(0x00010283, 0, 0, 0, 0);
        DUE.is("P6: a byte 128 + 3 is not 3", x.check(4), 3);
        x.feed(0x80010203, 0, 0, 0, 0);
        DUE.is("P6: the highest byte of an int below 0", x.check(4), 0);
        x.feed(0, 0, 0, 0, 0);
        DUE.is("P6: behind the tape", x.feed(0, 0, 0, 0, 0), 40);
    }

    /** "(1 to 240; empty then)", "NONE: no such n, it has not so many (the tape stays)". */
    private static void lengthsOfLaws() {
        String longest = "e" + "1+".repeat(116) + "10(1=1)";
        DUE.is("a text of 240 bytes", longest.length(), 240);
        TeaCabinet x = new TeaCabinet();
        Due.feed(x, longest);
        int[] wrong = {0, -1, 241, 260, Integer.MIN_VALUE, Integer.MAX_VALUE};
        for (int n : wrong) DUE.is("P7: n " + n, x.law(n), -1);
        DUE.is("P7: the tape stays", x.count(9), 240);
        DUE.is("P7: 240 bytes", x.law(240), 1);
        DUE.is("P7: empty then", x.count(9), 0);
        two(x);
        DUE.is("P7: all 240 bytes count", x.likes(0, 1), 126);
        for (int k = 0; k < 13; k++) x.feed(0x65656565, 0x65656565, 0x65656565, 0x65656565, 0x65656565);
        DUE.is("P7: 241 of 260", x.law(241), -1);
        DUE.is("P7: the full tape stays", x.count(9), 260);
        DUE.is("P7: 1 byte", x.law(1), -1001);
        DUE.is("P7: bytes behind n go, too", x.count(9), 0);
        Due.feed(x, "x(1=1)");
        DUE.is("P7: it has 20, not 21", x.law(21), -1);
        DUE.is("P7: the 20 stay", x.count(9), 20);
        DUE.is("P7: as many as there are: a ? behind the law", x.law(20), -1006);
        DUE.is("P7: an empty tape", x.law(1), -1);
        DUE.is("P7: the one before stays", x.count(8), 1);
    }

    /** "(1 to 40; empty then)": eleven bytes are the longest that can be right. */
    private static void lengthsOfRankings() {
        TeaCabinet x = new TeaCabinet();
        x.measures(6);
        two(x);
        Due.feed(x, "a=b=c=d=e>f");
        int[] wrong = {0, -1, 21, 40, 41, Integer.MIN_VALUE, Integer.MAX_VALUE};
        for (int n : wrong) DUE.is("P8: n " + n, x.ranking(0, n), -1);
        int[] untold = {-1, 2, 12, Integer.MIN_VALUE, Integer.MAX_VALUE};
        for (int g : untold) DUE.is("P8: guest " + g, x.ranking(g, 11), -1);
        DUE.is("P8: the tape stays", x.count(9), 20);
        DUE.is("P8: the RANKING stays", x.guestIs(0, 15), 0);
        DUE.is("P8: eleven bytes", x.ranking(0, 11), 2);
        DUE.is("P8: empty then", x.count(9), 0);
        Due.feed(x, "a=b=c=d=e>f".repeat(4));
        DUE.is("P8: 41 of 60", x.ranking(0, 41), -1);
        DUE.is("P8: the 60 stay", x.count(9), 60);
        DUE.is("P8: 40 of 60", x.ranking(0, 40), -1011);
        DUE.is("P8: an empty tape", x.ranking(0, 1), -1);
    }

    /** "at most 60 bytes": letters and pairs can make 58 at most, as k letters take 3 k - 2 bytes. */
    private static void lengthsOfAgendas() {
        TeaCabinet x = Due.voters(4, new int[] {1}, "d>c>b>a");
        String four = "((ab)(cd))";
        String longest = "(((" + four + four + ")(" + four + four + "))" + four + ")";
        DUE.is("a text of 58 bytes", longest.length(), 58);
        DUE.is("P21: 58 bytes", Due.agenda(x, longest), 3);
        DUE.is("P21: empty then", x.count(9), 0);
        DUE.is("P21: 59 bytes", Due.agenda(x, longest + "a"), -1058);
        DUE.is("P21: 60 bytes", Due.agenda(x, longest + "ab"), -1058);
        Due.feed(x, longest);
        int[] wrong = {0, -1, 61, Integer.MIN_VALUE, Integer.MAX_VALUE};
        for (int n : wrong) DUE.is("P21: n " + n, x.agenda(n), -1);
        DUE.is("P21: the tape stays", x.count(9), 60);
        DUE.is("P21: and what is on it", x.agenda(58), 3);
        Due.feed(x, "d");
        DUE.is("P21: it has 20, not 21", x.agenda(21), -1);
        DUE.is("P21: 1 byte", x.agenda(1), 3);
        DUE.is("P21: an empty tape", x.agenda(1), -1);
    }

    /** GUESTS 0 and 1, so that there is somebody to ask and to rank. */
    private static void two(TeaCabinet x) {
        x.guest(0, 0, 1, 99, 5);
        x.guest(1, 1, 1, 99, 5);
    }

    /** For what stands ahead: which bytes can stand next, with the answer that is due if the text ends behind them. */
    private static void bytesThatCanStandInALaw() {
        String value = DIGITS + FACTS + "[";
        String[][] next = {{"", "ekdx"}, {"e", value}, {"k", value}, {"d", value}, {"x", "("}, {"e5", DIGITS + SIGNS + "("},
            {"e5678", DIGITS + SIGNS + "("}, {"eg", SIGNS + "("}, {"e[", value}, {"e[5", DIGITS + SIGNS + "]"},
            {"e[g", SIGNS + "]"}, {"e[g]", SIGNS + "("}, {"eg+", value}, {"eg%", value}, {"x(", value + "(!"},
            {"x(1", DIGITS + SIGNS + "<>="}, {"x(g", SIGNS + "<>="}, {"x([g]", SIGNS + "<>="}, {"x(g=", value},
            {"x(g<", value}, {"x(g>", value}, {"x(!", value + "(!"}, {"x((", value + "(!"}, {"x((1=g)", "&|)"},
            {"x(g=g&", value + "(!"}, {"x(g=g|", value + "(!"}, {"x((g=g", SIGNS + "&|)"}, {"x(g=g);", "ekdx"},
            {"x(![g", SIGNS + "]"}, {"x(!g=g", SIGNS + "&|)"}, {"x(g=1", DIGITS + SIGNS + "&|)"}, {"x(g=1)", ";"}};
        for (String[] n : next) {
            TeaCabinet x = new TeaCabinet();
            for (int b = 0; b < 256; b++) {
                String text = n[0] + (char) b;
                int due = n[1].indexOf(b) < 0 ? -1000 - n[0].length() : -1000 - text.length();
                if (text.equals("x(!g=g)") || text.equals("x(g=1)") || text.equals("x((1=g))")) due = 1;
                if (Due.law(x, text) != due) DUE.is("P7: " + n[0] + " and then the byte " + b, false, true);
            }
        }
    }

    private static void bytesThatCanStandInARanking() {
        String[][] next = {{"", "abcd", ""}, {"b", ">=", ""}, {"b>", "acd", "b"}, {"b=c", ">=", ""}, {"b=c=", "ad", "bc"},
            {"b=c=a>", "d", "abc"}, {"b=c=a>d", "", ""}};
        for (String[] n : next) {
            TeaCabinet x = new TeaCabinet();
            two(x);
            for (int b = 0; b < 254; b++) {
                String text = n[0] + (char) b;
                int due = n[1].indexOf(b) >= 0 ? -1000 - text.length() : n[2].indexOf(b) >= 0 ? -6000 - n[0].length() : -1000 - n[0].length();
                if (text.equals("b=c=a>d")) due = 2;
                if (Due.rank(x, 0, text) != due) DUE.is("P8: " + n[0] + " and then the byte " + b, false, true);
            }
        }
    }

    private static void bytesThatCanStandInAnAgenda() {
        String[][] next = {{"", "abcd("}, {"a", ""}, {"(", "abcd("}, {"(a", "abcd("}, {"(ab", ")"}, {"((ab)", "abcd("},
            {"((ab)c", ")"}, {"(ab)", ""}};
        for (String[] n : next) {
            TeaCabinet x = new TeaCabinet();
            for (int b = 0; b < 256; b++) {
                String text = n[0] + (char) b;
                int due = n[1].indexOf(b) < 0 ? -1000 - n[0].length() : -1000 - text.length();
                if (text.length() == 1 && b >= 'a' && b <= 'd') due = b - 'a';
                if (text.equals("(ab)") || text.equals("((ab)c)")) due = 0;
                if (Due.agenda(x, text) != due) DUE.is("P21: " + n[0] + " and then the byte " + b, false, true);
            }
        }
    }

    /** "1 what can't stand there (the end, too)", "(the end ahead of all letters, too)". */
    private static void theEndAnywhere() {
        TeaCabinet x = new TeaCabinet();
        two(x);
        String law = "e5+[g*2](!(c<30)&l>1|a=0);x(m=9)";
        for (int n = 1; n < law.length(); n++) {
            DUE.is("P7: the end at " + n, Due.law(x, law.substring(0, n)), law.charAt(n) == ';' ? 1 : -1000 - n);
        }
        DUE.is("P7: no end ahead", Due.law(x, law), 2);
        String ranking = "d>a=c>b";
        for (int n = 1; n < 7; n++) DUE.is("P8: the end at " + n, Due.rank(x, 0, ranking.substring(0, n)), -1000 - n);
        DUE.is("P8: no end ahead", Due.rank(x, 0, ranking), 3);
        String agenda = "((ab)(c(da)))";
        for (int n = 1; n < agenda.length(); n++) {
            DUE.is("P21: the end at " + n, Due.agenda(x, agenda.substring(0, n)), -1000 - n);
        }
        x.guest(1, 1, 0, 0, 0);
        DUE.is("P21: no end ahead", Due.agenda(x, agenda), 3);
    }

    /** "no blanks": neither ahead, nor between, nor behind. */
    private static void blanksAnywhere() {
        TeaCabinet x = new TeaCabinet();
        two(x);
        String law = "e5+[g*27](!(c<3)&l>1|a=0);x(m=9)";
        for (int n = 0; n <= law.length(); n++) DUE.is("P7: a blank at " + n, Due.law(x, blankAt(law, n)), -1000 - n);
        for (int n = 0; n <= 7; n++) DUE.is("P8: a blank at " + n, Due.rank(x, 0, blankAt("d>a=c>b", n)), -1000 - n);
        for (int n = 0; n <= 7; n++) DUE.is("P21: a blank at " + n, Due.agenda(x, blankAt("((ab)c)", n)), -1000 - n);
        DUE.is("no law came of it", x.count(8), 0);
        DUE.is("no RANKING came of it", x.guestIs(0, 10), 0);
    }

    private static String blankAt(String text, int n) {
        return text.substring(0, n) + " " + text.substring(n);
    }

    /** "a number of one to five digits", "2 a sixth digit, at it". */
    private static void digits() {
        TeaCabinet x = new TeaCabinet();
        two(x);
        DUE.is("one digit", Due.law(x, "e9(0=0)"), 1);
        DUE.is("9", x.likes(0, 1), 9);
        DUE.is("five digits", Due.law(x, "e99999/99998*99999/11(00000=0)"), 1);
        DUE.is("99999 whole", x.likes(0, 1), 9090);
        DUE.is("a sixth in E", Due.law(x, "e999999(0=0)"), -2006);
        DUE.is("a sixth 0", Due.law(x, "e000000(0=0)"), -2006);
        DUE.is("a sixth in [E]", Due.law(x, "e[123456](0=0)"), -2007);
        DUE.is("a sixth ahead of =", Due.law(x, "e1(123456=0)"), -2008);
        DUE.is("a sixth behind =", Due.law(x, "e1(0=123456)"), -2010);
        DUE.is("a sixth behind +", Due.law(x, "e1+123456(0=0)"), -2008);
        DUE.is("a sixth behind *", Due.law(x, "e1*123456(0=0)"), -2008);
        DUE.is("a sixth digit is the end", Due.law(x, "e123456"), -2006);
        DUE.is("five, then the end", Due.law(x, "e12345"), -1006);
    }

    /** "RULES (16 at most)", "4 a 17th RULE, at its letter (if that can stand there)". */
    private static void rules() {
        TeaCabinet x = new TeaCabinet();
        String fifteen = "x(1=0);".repeat(15);
        String sixteen = "x(1=0);".repeat(16);
        DUE.is("sixteen", Due.law(x, fifteen + "e1(1=1)"), 16);
        two(x);
        DUE.is("the sixteenth counts", x.likes(0, 1), 1);
        for (char letter : "ekdx".toCharArray()) DUE.is("a 17th " + letter, Due.law(x, sixteen + letter), -4112);
        DUE.is("a 17th that is right", Due.law(x, sixteen + "x(1=1)"), -4112);
        DUE.is("a letter that can't stand there", Due.law(x, sixteen + "g(1=1)"), -1112);
        DUE.is("a ; again", Due.law(x, sixteen + ";"), -1112);
        DUE.is("the end", Due.law(x, sixteen), -1112);
        DUE.is("a sixteenth with a fault", Due.law(x, fifteen + "e1(1=)"), -1110);
        DUE.is("no ; behind the sixteenth", Due.law(x, fifteen + "x(1=1)x"), -1111);
        DUE.is("the one before stays", x.count(8), 16);
        DUE.is("one RULE in place of sixteen", Due.law(x, "k1(1=1)"), 1);
        DUE.is("the old ones are gone", x.likes(0, 1), 0);
    }

    /** "5 a seventh of ( [ ! that are open in one another, at it (the ( of the RULE counts ..)". */
    private static void depthOfALaw() {
        TeaCabinet x = new TeaCabinet();
        String[] six = {"x((((((1=1))))))", "x(!!!!!1=1)", "x([[[[[1]]]]]=1)", "x(1=[[[[[1]]]]])", "e[[[[[[1]]]]]](1=1)",
            "x(!(!([1]=1)))", "x((!(!([1]=1))))", "x(!((!(1=1))))", "k1(1=1|!!!![1]=1)", "d1(1=1&(((([1]=1)))))"};
        boolean[] fits = {true, true, true, true, true, true, false, true, true, true};
        for (int i = 0; i < six.length; i++) DUE.is("six open: " + six[i], Due.law(x, six[i]) > 0, fits[i]);
        Object[][] seven = {{"x(((((((1=1)))))))", -5007}, {"x(!!!!!!1=1)", -5007}, {"x([[[[[[1]]]]]]=1)", -5007},
            {"x(1=[[[[[[1]]]]]])", -5009}, {"e[[[[[[[1]]]]]]](1=1)", -5007}, {"x((!(!([1]=1))))", -5007},
            {"x(!!!!!(1=1))", -5007}, {"x(!!!!![1]=1)", -5007}, {"x(!!!!!1=[1])", -5009}, {"x((((((!1=1))))))", -5007},
            {"x(((((([1]=1))))))", -5007}, {"x((((((1=[1]))))))", -5009}, {"x((((((1=1&!1=1))))))", -5011},
            {"x((((((1=1|(1=1)))))))", -5011}, {"e1(1=1);x(((((((", -5015}, {"e[[[[[[1+[", -5009}};
        for (Object[] s : seven) DUE.is("seven open: " + s[0], Due.law(x, (String) s[0]), (int) s[1]);
        DUE.is("a seventh ( that can't stand there", Due.law(x, "x((((((1=1("), -1010);
        DUE.is("a seventh ! that can't stand there", Due.law(x, "x((((((1=!"), -1009);
        DUE.is("a seventh [ that can't stand there", Due.law(x, "x((((((1["), -1008);
    }

    /** "a ! is open till its TEST ends; the E of a RULE stands ahead of it": what has ended counts no more. */
    private static void depthThatEnds() {
        TeaCabinet x = new TeaCabinet();
        DUE.is("! ends at &", Due.law(x, "x(!!!!!1=1&!!!!!1=1)"), 1);
        DUE.is("! ends at |", Due.law(x, "x(!!!!!1=1|!!!!!1=1)"), 1);
        DUE.is("! ends at )", Due.law(x, "x((!!!!1=1)&(!!!!1=1))"), 1);
        DUE.is("! ends with its (C)", Due.law(x, "x(!(!(1=1))&!(!([1]=1)))"), 1);
        DUE.is("! is open in all of its (C)", Due.law(x, "x(!(1=1|!!!1=1&[[1]]=1))"), 1);
        DUE.is("! is open behind =", Due.law(x, "x(!1=[[[[[1]]]]])"), -5009);
        DUE.is("[ ends at ]", Due.law(x, "x([[[[[1]]]]]+[[[[[1]]]]]=[[[[[1]]]]])"), 1);
        DUE.is("the [ of E are ahead", Due.law(x, "e[[[[[[1]]]]]]((((((1=1))))))"), 1);
        DUE.is("the next RULE begins anew", Due.law(x, "x((((((1=1))))));x((((((1=1))))))"), 2);
        DUE.is("a fault is no longer open then", Due.law(x, "x((((((("), -5007);
        DUE.is("as ever", Due.law(x, "x((((((1=1))))))"), 1);
    }

    /** "5 a ninth ( that is open in another one, at it". */
    private static void depthOfAnAgenda() {
        TeaCabinet x = new TeaCabinet();
        String left = "(".repeat(8) + "a" + "b)".repeat(8);
        String right = "(a".repeat(8) + "b" + ")".repeat(8);
        DUE.is("eight to the left", Due.agenda(x, left), 0);
        DUE.is("eight to the right", Due.agenda(x, right), 0);
        DUE.is("nine to the left", Due.agenda(x, "(" + left + "a)"), -5008);
        DUE.is("nine to the right", Due.agenda(x, "(a" + right + ")"), -5016);
        DUE.is("a ninth in the middle", Due.agenda(x, "(".repeat(8) + "a(bc)"), -5009);
        DUE.is("nine in all, eight in one another", Due.agenda(x, "(".repeat(8) + "ab)(cd))" + "a)".repeat(6)), 0);
        DUE.is("a ninth that can't stand there", Due.agenda(x, "(".repeat(8) + "ab("), -1010);
        DUE.is("eight, then the end", Due.agenda(x, "(".repeat(8)), -1008);
    }

    /** "just the first M letters", "a letter of the first M". */
    private static void lettersByM() {
        for (int m = 2; m <= 6; m++) {
            TeaCabinet x = new TeaCabinet();
            x.measures(m);
            two(x);
            StringBuilder ranking = new StringBuilder();
            for (int i = m - 1; i > 0; i--) ranking.append((char) ('a' + i)).append('>');
            String beyond = String.valueOf((char) ('a' + m));
            DUE.is("P8: all letters of " + m, Due.rank(x, 0, ranking + "a"), m);
            DUE.is("P8: a place of the last of " + m, x.guestIs(0, 10), m - 1);
            DUE.is("P8: one letter less of " + m, Due.rank(x, 0, ranking.substring(0, 2 * m - 3)), -1000 - (2 * m - 3));
            DUE.is("P8: a letter beyond " + m, Due.rank(x, 0, ranking + beyond), -1000 - 2 * (m - 1));
            DUE.is("P8: one letter more than " + m, Due.rank(x, 0, ranking + "a>" + beyond), -1000 - (2 * m - 1));
            DUE.is("P8: a letter again behind all of " + m, Due.rank(x, 0, ranking + "a>a"), -1000 - (2 * m - 1));
            DUE.is("P8: a letter again at the last place of " + m, Due.rank(x, 0, ranking + "b"), -6000 - 2 * (m - 1));
            DUE.is("P21: the last letter of " + m, Due.agenda(x, "" + (char) ('a' + m - 1)), m - 1);
            DUE.is("P21: a letter beyond " + m, Due.agenda(x, beyond), -1000);
            DUE.is("P21: a letter beyond in a pair of " + m, Due.agenda(x, "(a" + beyond + ")"), -1002);
            DUE.is("P21: a sign ahead of a", Due.agenda(x, "`"), -1000);
        }
    }

    /** "FAULTS, the first from the left". */
    private static void theFirstFaultFromTheLeft() {
        TeaCabinet x = new TeaCabinet();
        two(x);
        DUE.is("P8: 6 ahead of 1", Due.rank(x, 0, "a>a>z"), -6002);
        DUE.is("P8: 1 ahead of 6", Due.rank(x, 0, "a>z>a"), -1002);
        DUE.is("P8: of two 6 the first", Due.rank(x, 0, "b>b>b"), -6002);
        DUE.is("P7: 2 ahead of 5", Due.law(x, "e123456(((((((1=1"), -2006);
        DUE.is("P7: 5 ahead of 2", Due.law(x, "x(((((((123456"), -5007);
        DUE.is("P7: 1 ahead of 4", Due.law(x, "x(1=0);".repeat(15) + "x(1=0;x(1=0);x(1=0)"), -1110);
        DUE.is("P7: 4 ahead of 1", Due.law(x, "x(1=0);".repeat(16) + "x(1=0;"), -4112);
        DUE.is("P7: 4 ahead of 2", Due.law(x, "x(1=0);".repeat(16) + "e123456"), -4112);
        DUE.is("P21: 1 ahead of 5", Due.agenda(x, "((((z(((((((("), -1004);
        DUE.is("P21: 5 ahead of 1", Due.agenda(x, "(((((((((z"), -5008);
    }

    /** "a FAULT .. (the one before stays)"; the tape is empty then. */
    private static void faultsLeaveTheOneBefore() {
        TeaCabinet x = new TeaCabinet();
        two(x);
        Due.law(x, "e7(1=1);x(g=1)");
        Due.rank(x, 0, "d>c>b>a");
        String[] laws = {"e8(1=1);x(g=0);z", "e123456(1=1)", "e8(((((((1=1)))))))", "x(1=1);".repeat(17)};
        for (String law : laws) {
            DUE.is("P7: a fault", Due.law(x, law) < -1000, true);
            DUE.is("P7: empty then", x.count(9), 0);
            DUE.is("P7: as many RULES", x.count(8), 2);
            DUE.is("P7: the same e", x.likes(0, 1), 7);
            DUE.is("P7: the same x", x.likes(1, 0), 0);
        }
        String[] rankings = {"a>b>c>e", "a>b>c>a", "a>b>c", "a>b>c>d>"};
        for (String ranking : rankings) {
            DUE.is("P8: a fault", Due.rank(x, 0, ranking) < -1000, true);
            DUE.is("P8: empty then", x.count(9), 0);
            DUE.is("P8: the same RANKING", x.guestIs(0, 10) * 10 + x.guestIs(0, 13), 30);
        }
        DUE.is("P21: a fault", Due.agenda(x, "(ab"), -1003);
        DUE.is("P21: empty then", x.count(9), 0);
    }
}
