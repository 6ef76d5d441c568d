import java.util.Arrays;

/** Teapots govern: guests at a round table, their rankings, a law, teas and votes. */
public final class TeaCabinet {
    public static final int NONE = -1;

    private static final int NOBODY = -2;
    private static final int UNFIT = -3;

    private static final int GUESTS = 12;
    private static final int SEATS = 12;
    private static final int HALF_TABLE = 6;
    private static final int MOST_MEASURES = 6;
    private static final int MOST_SETS = 64;
    private static final int MEASURE_BITS = 63;
    private static final int MOST_BISCUITS = 20;
    private static final int MOST_TEAS = 60;
    private static final int LAST_TEA = 9999;
    private static final int MOST_UNDECIDED = 6;
    private static final int MOST_LIES = 120;

    private static final int TAPE_BYTES = 260;
    private static final int FED_BYTES = 20;
    private static final int LAW_BYTES = 240;
    private static final int RANKING_BYTES = 40;
    private static final int AGENDA_BYTES = 60;

    private static final int MOST_RULES = 16;
    private static final int MOST_DIGITS = 5;
    private static final int LAW_DEPTH = 6;
    private static final int AGENDA_DEPTH = 8;
    private static final int STACK = 40;
    private static final int FACT_COUNT = 8;
    private static final String FACTS = "gclabmvt";

    private static final int FAULT_SIGN = 1;
    private static final int FAULT_DIGITS = 2;
    private static final int FAULT_RULES = 4;
    private static final int FAULT_DEPTH = 5;
    private static final int FAULT_AGAIN = 6;

    /** The question for a winner, or for how many, where smaller numbers ask for MEASURES. */
    private static final int WHOLE = 10;
    private static final int ALL_PARTIES = 100;

    private final Text tape;
    private final Table table;
    private final Table kept;
    private final Table trial;
    private final Votes votes;
    private final Law law;
    private final LawReader lawReader;
    private final AgendaReader agendaReader;
    private final Service service;
    private final int[] begun;
    private final int[] decided;
    private boolean hasKept;

    public TeaCabinet() {
        tape = new Text();
        table = new Table();
        kept = new Table();
        trial = new Table();
        votes = new Votes(table);
        law = new Law();
        lawReader = new LawReader(tape);
        agendaReader = new AgendaReader(tape, votes);
        service = new Service(law);
        begun = new int[GUESTS];
        decided = new int[GUESTS];
    }

    public boolean measures(int m) {
        if (!within(m, 2, MOST_MEASURES)) return false;
        table.measureCount = m;
        table.inForce = 0;
        Arrays.fill(table.over, 0L);
        hasKept = false;
        return true;
    }

    public boolean guest(int g, int seat, int biscuits, int hands, int manners) {
        if (!within(g, 0, GUESTS - 1) || !within(seat, 0, SEATS - 1)) return false;
        if (!within(biscuits, 0, MOST_BISCUITS) || !within(hands, 0, 99) || !within(manners, 0, 9)) return false;
        int sitter = table.guestAt[seat];
        if (sitter != NONE && sitter != g) return false;
        table.place(g, seat);
        table.biscuits[g] = biscuits;
        table.hands[g] = hands;
        table.manners[g] = manners;
        return true;
    }

    public boolean pot(int heat, int cups) {
        if (!within(heat, 0, 99) || !within(cups, 0, GUESTS)) return false;
        service.heat = heat;
        service.cups = cups;
        return true;
    }

    public boolean mother(int g) {
        if (!table.isTold(g)) return false;
        table.mother = g;
        return true;
    }

    public int feed(int a, int b, int c, int d, int e) {
        if (tape.length > TAPE_BYTES - FED_BYTES) return NONE;
        tape.add(a);
        tape.add(b);
        tape.add(c);
        tape.add(d);
        tape.add(e);
        return tape.length;
    }

    public int law(int n) {
        if (!tape.has(n, 1, LAW_BYTES)) return NONE;
        tape.open(n);
        int rules = lawReader.readLaw();
        tape.length = 0;
        if (rules > 0) law.copyFrom(lawReader.draft);
        return rules;
    }

    public int ranking(int g, int n) {
        if (!table.isTold(g) || !tape.has(n, 1, RANKING_BYTES)) return NONE;
        tape.open(n);
        long over = readRanking();
        tape.length = 0;
        if (tape.fault != 0) return tape.fault;
        table.over[g] = over;
        return table.steps(g);
    }

    public int teas(int n) {
        if (!within(n, 1, MOST_TEAS)) return NONE;
        if (table.mother == NONE) return NOBODY;
        int gone = 0;
        for (int i = 0; i < n && service.serve(table); i++) gone++;
        return gone;
    }

    public int tried(int n, int what) {
        boolean ofGuest = what >= 10 && table.isTold(what - 10);
        if (!within(n, 1, MOST_TEAS) || !(within(what, 0, 3) || ofGuest)) return NONE;
        if (table.mother == NONE) return NOBODY;
        trial.copyFrom(table);
        for (int i = 0; i < n; i++) {
            if (!service.serve(trial)) break;
        }
        switch (what) {
            case 0: return trial.mother;
            case 1: return trial.inForce;
            case 2: return trial.spilt - table.spilt;
            case 3: return trial.burns() - table.burns();
            default: return ofGuest ? trial.manners[what - 10] : NONE;
        }
    }

    public int guestIs(int g, int what) {
        if (!table.isTold(g)) return NONE;
        switch (what) {
            case 0: return table.seat[g];
            case 1: return table.biscuits[g];
            case 2: return table.hands[g];
            case 3: return table.manners[g];
            case 4: return table.burnt[g];
            case 5: return table.poured[g];
            case 6: return law.askedBy(table, g);
            default:
                if (what < 10 || !table.isMeasure(what - 10)) return NONE;
                return Integer.bitCount(table.aheadOf(g, what - 10));
        }
    }

    public int likes(int g, int c) {
        if (!table.isTold(g) || !table.isTold(c) || g == c) return NONE;
        return law.liking(table, g, c, 0);
    }

    public int pair(int i, int j) {
        if (!table.isMeasure(i) || !table.isMeasure(j) || i == j) return NONE;
        return votes.biscuitsFor(i, j);
    }

    public int firsts(int what) {
        if (what != WHOLE && !table.isMeasure(what)) return NONE;
        votes.countFirsts();
        return what == WHOLE ? most(votes.counts) : votes.counts[what];
    }

    public int points(int what) {
        if (what != WHOLE && !table.isMeasure(what)) return NONE;
        votes.countPoints();
        return what == WHOLE ? most(votes.counts) : votes.counts[what];
    }

    public int runOff(int what) {
        int last = table.measureCount - 1;
        if (what != WHOLE && !within(what, 0, last - 1)) return NONE;
        votes.countRunOff();
        return votes.out[what == WHOLE ? last : what];
    }

    public int best() {
        votes.weighPairs();
        int all = table.allMeasures();
        for (int i = 0; i < table.measureCount; i++) {
            if ((votes.beaten[i] | 1 << i) == all) return i;
        }
        return NOBODY;
    }

    public int set() {
        votes.weighPairs();
        return votes.leastBeatingSet();
    }

    public int widest(int i, int j) {
        if (!table.isMeasure(i) || !table.isMeasure(j) || i == j) return NONE;
        votes.weighPairs();
        votes.widenPaths();
        return votes.widths[i * MOST_MEASURES + j];
    }

    public int pathWinners() {
        votes.weighPairs();
        votes.widenPaths();
        int winners = 0;
        for (int i = 0; i < table.measureCount; i++) {
            if (votes.winsPaths(i)) winners |= 1 << i;
        }
        return winners;
    }

    public int agenda(int n) {
        if (!tape.has(n, 1, AGENDA_BYTES)) return NONE;
        tape.open(n);
        votes.weighPairs();
        int winner = agendaReader.readAgenda(table.measureCount);
        tape.length = 0;
        return tape.fault != 0 ? tape.fault : winner;
    }

    public int orders(int i, int what) {
        if (!table.isMeasure(i) || what != WHOLE && !table.isMeasure(what)) return NONE;
        votes.weighPairs();
        int rows = votes.countOrders(i);
        if (what == WHOLE) return rows;
        if (rows == 0) return NOBODY;
        votes.findLeastOrder();
        return votes.least[what];
    }

    public int power(int g, int what) {
        if (g == NONE && what == 1) return votes.winningSets();
        if (g == NONE && what == 2) return votes.leastWinningSets();
        if (!table.isTold(g) || what != 0) return NONE;
        return votes.setsSwungBy(g);
    }

    public int wonOver(int i, int what) {
        if (!table.isMeasure(i) || !within(what, 0, 1)) return NONE;
        int guests = votes.fewestToWin(i);
        if (guests == NONE) return NOBODY;
        return what == 0 ? Integer.bitCount(guests) : guests;
    }

    public int lie(int g, int what) {
        if (!table.isTold(g) || what != WHOLE && !table.isMeasure(what)) return NONE;
        if (table.measureCount == MOST_MEASURES) return UNFIT;
        int lies = votes.countLies(g);
        if (what == WHOLE) return lies;
        return lies == 0 ? NOBODY : votes.least[what];
    }

    public int sure(int undecided, int what) {
        if ((undecided & ~table.told) != 0 || Integer.bitCount(undecided) > MOST_UNDECIDED) return NONE;
        if (!within(what, 0, 1)) return NONE;
        int possible = votes.possibleWinners(undecided);
        if (what == 1) return possible;
        // Somebody always wins: one alone that may win does so whatever happens.
        return Integer.bitCount(possible) == 1 ? possible : 0;
    }

    public int cup(int g) {
        if (!table.isTold(g)) return NONE;
        if (table.mother == NONE) return UNFIT;
        int steps = g == table.mother ? SEATS : table.seatsLeft(table.mother, g);
        int heat = service.heatOf(table.toldBetween(steps, g), service.cooling(table));
        return heat == NONE ? NOBODY : heat;
    }

    public int where(int g) {
        if (!table.isTold(g)) return NONE;
        if (table.mother == NONE) return UNFIT;
        return g == table.mother ? NOBODY : service.bestSeat(table, g);
    }

    public int end(int n, int what) {
        if (!within(n, 1, MOST_TEAS) || !within(what, 0, 2)) return NONE;
        if (table.mother == NONE) return NOBODY;
        trial.copyFrom(table);
        Arrays.fill(begun, 0);
        Arrays.fill(decided, 0);
        for (int i = 0; i < n; i++) {
            int mother = trial.mother;
            int spilt = trial.spilt;
            if (mother == NONE || !service.serve(trial)) break;
            begun[mother]++;
            if (trial.spilt == spilt) decided[mother]++;
        }
        int who = most(begun);
        if (what == 1) return begun[who];
        if (what == 2) return decided[who];
        return begun[who] == 0 ? NOBODY : who;
    }

    public int left(int g, int n) {
        if (!table.isTold(g) || !within(n, 1, GUESTS)) return NONE;
        int reached = g;
        for (int i = 0; i < n; i++) reached = table.nextLeft(reached);
        return reached;
    }

    public int parted(int what) {
        if (!within(what, 0, 1)) return NONE;
        int parting = 0;
        int least = table.amountBetweenHalves(0);
        for (int first = 1; first < HALF_TABLE; first++) {
            int amount = table.amountBetweenHalves(first);
            if (amount < least) {
                least = amount;
                parting = first;
            }
        }
        return what == 0 ? parting : least;
    }

    public int alike(int what) {
        if (what == ALL_PARTIES) return table.parties();
        return table.isTold(what) ? table.partyOf(what) : NONE;
    }

    public boolean seed(int x) {
        if (!within(x, 0, 65535)) return false;
        table.x = x;
        return true;
    }

    public int keep() {
        kept.copyFrom(table);
        hasKept = true;
        return table.tea;
    }

    public boolean undo() {
        if (!hasKept) return false;
        table.copyFrom(kept);
        return true;
    }

    public int check(int n) {
        if (!tape.has(n, 0, GUESTS)) return NOBODY;
        tape.length = 0;
        for (int g = 0; g < n; g++) {
            if (tape.bytes[g] != (table.isTold(g) ? table.manners[g] : 0)) return g;
        }
        return NONE;
    }

    public int count(int what) {
        switch (what) {
            case 0: return table.measureCount;
            case 1: return table.told;
            case 2: return table.mother == NONE ? NOBODY : table.mother;
            case 3: return table.inForce;
            case 4: return table.tea;
            case 5: return table.spilt;
            case 6: return service.heat;
            case 7: return service.cups;
            case 8: return law.rules;
            case 9: return tape.length;
            case 10: return table.x;
            case 11: return table.allBiscuits();
            default: return NONE;
        }
    }

    private static boolean within(int number, int least, int most) {
        return number >= least && number <= most;
    }

    /** Which element is the greatest; of like ones the first. */
    private static int most(int[] row) {
        int best = 0;
        for (int i = 1; i < row.length; i++) {
            if (row[i] > row[best]) best = i;
        }
        return best;
    }

    /** The RANKING on the opened tape in the form of Table.over; a FAULT is left in the tape. */
    private long readRanking() {
        long over = 0L;
        int seen = 0;
        int above = 0;
        for (int letters = 0; letters < table.measureCount; letters++) {
            if (letters > 0) {
                int between = tape.sign();
                if (between != '>' && between != '=') return tape.fail(FAULT_SIGN);
                if (between == '>') above = seen;
                tape.at++;
            }
            int measure = tape.sign() - 'a';
            if (!table.isMeasure(measure)) return tape.fail(FAULT_SIGN);
            if ((seen >> measure & 1) != 0) return tape.fail(FAULT_AGAIN);
            seen |= 1 << measure;
            over |= (long) above << measure * MOST_MEASURES;
            tape.at++;
        }
        return tape.sign() == NONE ? over : tape.fail(FAULT_SIGN);
    }

    /** The tape, and how far its first bytes have been read as a TEXT. */
    private static final class Text {
        final int[] bytes = new int[TAPE_BYTES];
        int length;
        int stop;
        int at;
        int fault;

        void add(int four) {
            for (int shift = 24; shift >= 0; shift -= 8) {
                if (length >= bytes.length) return;
                bytes[length] = four >>> shift & 255;
                length++;
            }
        }

        boolean has(int n, int least, int most) {
            return within(n, least, most) && n <= length;
        }

        void open(int n) {
            stop = n;
            at = 0;
            fault = 0;
        }

        /** The byte that stands next; NONE at the end. */
        int sign() {
            return at >= 0 && at < stop && at < bytes.length ? bytes[at] : NONE;
        }

        boolean stands(int first, int second) {
            int sign = sign();
            return fault == 0 && (sign == first || sign == second);
        }

        void pass(int wanted) {
            if (fault != 0) return;
            if (sign() == wanted) at++;
            else fail(FAULT_SIGN);
        }

        int fail(int number) {
            if (fault == 0) fault = -1000 * number - at;
            return NONE;
        }
    }

    /** All that a TEA changes and that is KEPT. */
    private static final class Table {
        int measureCount = 4;
        int told;
        int mother = NONE;
        int inForce;
        int tea;
        int spilt;
        int x = 1;
        final int[] guestAt = new int[SEATS];
        final int[] seat = new int[GUESTS];
        final int[] biscuits = new int[GUESTS];
        final int[] hands = new int[GUESTS];
        final int[] manners = new int[GUESTS];
        final int[] burnt = new int[GUESTS];
        final int[] poured = new int[GUESTS];
        /** RANKINGS: bit 6 i + j of a GUEST's is set if it ranks MEASURE j ahead of i. */
        final long[] over = new long[GUESTS];

        Table() {
            Arrays.fill(guestAt, NONE);
        }

        void copyFrom(Table other) {
            measureCount = other.measureCount;
            told = other.told;
            mother = other.mother;
            inForce = other.inForce;
            tea = other.tea;
            spilt = other.spilt;
            x = other.x;
            System.arraycopy(other.guestAt, 0, guestAt, 0, SEATS);
            System.arraycopy(other.seat, 0, seat, 0, GUESTS);
            System.arraycopy(other.biscuits, 0, biscuits, 0, GUESTS);
            System.arraycopy(other.hands, 0, hands, 0, GUESTS);
            System.arraycopy(other.manners, 0, manners, 0, GUESTS);
            System.arraycopy(other.burnt, 0, burnt, 0, GUESTS);
            System.arraycopy(other.poured, 0, poured, 0, GUESTS);
            System.arraycopy(other.over, 0, over, 0, GUESTS);
        }

        boolean isTold(int g) {
            return g >= 0 && g < GUESTS && (told >> g & 1) != 0;
        }

        boolean isMeasure(int i) {
            return i >= 0 && i < measureCount;
        }

        int allMeasures() {
            return (1 << measureCount) - 1;
        }

        /** Seats a new GUEST, who has neither burnt its tongue nor poured nor ranked yet. */
        void place(int g, int newSeat) {
            if (isTold(g)) guestAt[seat[g]] = NONE;
            told |= 1 << g;
            seat[g] = newSeat;
            guestAt[newSeat] = g;
            burnt[g] = 0;
            poured[g] = 0;
            over[g] = 0L;
        }

        int seatsLeft(int from, int to) {
            return Math.floorMod(seat[to] - seat[from], SEATS);
        }

        /** The next told GUEST to the left; the same one if it is alone. */
        int nextLeft(int g) {
            for (int steps = 1; steps < SEATS; steps++) {
                int found = guestAt[(seat[g] + steps) % SEATS];
                if (found != NONE) return found;
            }
            return g;
        }

        /** How many told GUESTS but g sit less than so many SEATS to the left of MOTHER. */
        int toldBetween(int steps, int g) {
            int found = 0;
            for (int i = 1; i < steps && i < SEATS; i++) {
                int sitter = guestAt[(seat[mother] + i) % SEATS];
                if (sitter != NONE && sitter != g) found++;
            }
            return found;
        }

        /** MEASURES (bits) that a GUEST ranks ahead of one. */
        int aheadOf(int g, int measure) {
            return (int) (over[g] >>> measure * MOST_MEASURES) & MEASURE_BITS;
        }

        /** How many unlike ranks a GUEST's RANKING has. */
        int steps(int g) {
            int different = 0;
            for (int i = 0; i < measureCount; i++) {
                boolean again = false;
                for (int j = 0; j < i; j++) again |= aheadOf(g, i) == aheadOf(g, j);
                if (!again) different++;
            }
            return different;
        }

        /** Which of some MEASURES (bits) a GUEST ranks highest; of like ones the first. */
        int favourite(int g, int among) {
            for (int i = 0; i < measureCount; i++) {
                if ((among >> i & 1) != 0 && (aheadOf(g, i) & among) == 0) return i;
            }
            return NONE;
        }

        int allBiscuits() {
            int all = 0;
            for (int g = 0; g < GUESTS; g++) {
                if (isTold(g)) all += biscuits[g];
            }
            return all;
        }

        int burns() {
            int all = 0;
            for (int g = 0; g < GUESTS; g++) {
                if (isTold(g)) all += burnt[g];
            }
            return all;
        }

        int amountBetweenHalves(int first) {
            int half = 0;
            for (int i = 0; i < HALF_TABLE; i++) {
                int sitter = guestAt[(first + i) % SEATS];
                if (sitter != NONE) half += biscuits[sitter];
            }
            return Math.abs(allBiscuits() - 2 * half);
        }

        int partyOf(int g) {
            int party = 0;
            for (int c = 0; c < GUESTS; c++) {
                if (isTold(c) && over[c] == over[g]) party |= 1 << c;
            }
            return party;
        }

        int parties() {
            int found = 0;
            int counted = 0;
            for (int g = 0; g < GUESTS; g++) {
                if (isTold(g) && (counted >> g & 1) == 0) {
                    found++;
                    counted |= partyOf(g);
                }
            }
            return found;
        }
    }

    /** THE POT, and how TEAS go by at a Table. */
    private static final class Service {
        final Law law;
        final int[] asked = new int[GUESTS];
        int heat = 80;
        int cups = 12;

        Service(Law law) {
            this.law = law;
        }

        int cooling(Table table) {
            law.tellMother(table);
            return law.amount('k', 20);
        }

        /** How hot the cup is that is poured after so many others; NONE if there is no cup left. */
        int heatOf(int others, int cooling) {
            return others >= cups ? NONE : Math.max(0, heat - cooling * others);
        }

        int bestSeat(Table table, int g) {
            int cooling = cooling(table);
            int hottest = NONE;
            int best = NOBODY;
            for (int seat = 0; seat < SEATS; seat++) {
                if (table.guestAt[seat] != NONE && table.guestAt[seat] != g) continue;
                int steps = Math.floorMod(seat - table.seat[table.mother], SEATS);
                int cupHeat = heatOf(table.toldBetween(steps, g), cooling);
                if (cupHeat > hottest && cupHeat <= table.hands[g]) {
                    hottest = cupHeat;
                    best = seat;
                }
            }
            return best;
        }

        /** Lets one TEA go by; false if none can. */
        boolean serve(Table table) {
            int pourer = table.mother;
            if (pourer == NONE || table.tea >= LAST_TEA) return false;
            int cooling = cooling(table);
            int tenths = law.amount('d', 10);
            int content = pourCups(table, cooling);
            table.x = (25173 * table.x + 13849) % 65536;
            if (table.x % 10 < tenths) {
                // The TEA is over here: it is counted, but as nobody's POURED.
                table.spilt++;
                table.mother = table.nextLeft(pourer);
            } else {
                decide(table);
                passPot(table, content);
                table.poured[pourer]++;
            }
            table.tea++;
            return true;
        }

        /** Step (1); answers the GUESTS (bits) who got a cup and were not BURNT by it. */
        private int pourCups(Table table, int cooling) {
            int content = 0;
            int others = 0;
            for (int steps = 1; steps <= SEATS; steps++) {
                int g = table.guestAt[(table.seat[table.mother] + steps) % SEATS];
                if (g == NONE) continue;
                int cupHeat = heatOf(others, cooling);
                if (cupHeat == NONE) return content;
                others++;
                if (table.hands[g] >= cupHeat) {
                    content |= 1 << g;
                } else {
                    table.burnt[g]++;
                    table.manners[g] = Math.max(0, table.manners[g] - 1);
                }
            }
            return content;
        }

        /** Step (3). */
        private void decide(Table table) {
            int open = table.allMeasures() & ~table.inForce;
            if (open == 0) table.inForce = 0;
            else table.inForce |= 1 << table.favourite(table.mother, open);
        }

        /** Step (4). MOTHER comes last in the round, so she is the farthest to her own left. */
        private void passPot(Table table, int content) {
            Arrays.fill(asked, 0);
            for (int g = 0; g < GUESTS; g++) {
                if ((content >> g & 1) == 0) continue;
                int whom = law.askedBy(table, g);
                if (whom >= 0) asked[whom] += table.biscuits[g];
            }
            int chosen = table.mother;
            int most = 0;
            for (int steps = 1; steps <= SEATS; steps++) {
                int g = table.guestAt[(table.seat[table.mother] + steps) % SEATS];
                if (g != NONE && asked[g] > most) {
                    most = asked[g];
                    chosen = g;
                }
            }
            table.mother = chosen;
        }
    }

    /**
     * THE LAW as steps for a stack: a sign of the language each, '0' for a number and 'g' for a letter.
     * A step of & or | has the step to go on with if the rest does not matter.
     */
    private static final class Law {
        int rules;
        int length;
        final int[] letter = new int[MOST_RULES];
        final int[] amountFrom = new int[MOST_RULES];
        final int[] testFrom = new int[MOST_RULES];
        final int[] testTo = new int[MOST_RULES];
        final int[] signs = new int[LAW_BYTES];
        final int[] operands = new int[LAW_BYTES];
        final int[] facts = new int[FACT_COUNT];
        final int[] stack = new int[STACK];
        boolean refused;

        void copyFrom(Law other) {
            rules = other.rules;
            length = other.length;
            System.arraycopy(other.letter, 0, letter, 0, MOST_RULES);
            System.arraycopy(other.amountFrom, 0, amountFrom, 0, MOST_RULES);
            System.arraycopy(other.testFrom, 0, testFrom, 0, MOST_RULES);
            System.arraycopy(other.testTo, 0, testTo, 0, MOST_RULES);
            System.arraycopy(other.signs, 0, signs, 0, LAW_BYTES);
            System.arraycopy(other.operands, 0, operands, 0, LAW_BYTES);
        }

        /** Adds a step and answers its place; NONE if there is no room. */
        int add(int sign, int operand) {
            if (length >= LAW_BYTES) return NONE;
            signs[length] = sign;
            operands[length] = operand;
            length++;
            return length - 1;
        }

        void tellMother(Table table) {
            tell(table, table.mother);
            facts[0] = table.mother;
            facts[1] = 0;
            facts[2] = 0;
            facts[3] = 0;
        }

        private void tellPair(Table table, int g, int c) {
            tell(table, c);
            facts[0] = g;
            facts[1] = c;
            facts[2] = table.seatsLeft(g, c);
            facts[3] = Long.bitCount(table.over[g] & table.over[c]);
        }

        private void tell(Table table, int whose) {
            facts[4] = table.biscuits[whose];
            facts[5] = table.manners[whose];
            facts[6] = table.poured[whose];
            facts[7] = table.tea;
        }

        int askedBy(Table table, int g) {
            int most = 0;
            int whom = NOBODY;
            for (int c = 0; c < GUESTS; c++) {
                if (c == g || !table.isTold(c)) continue;
                int amount = liking(table, g, c, most);
                if (amount > most) {
                    most = amount;
                    whom = c;
                }
            }
            return whom;
        }

        /** How much g likes to ask c if it would and that is above an amount; else 0. */
        int liking(Table table, int g, int c, int above) {
            tellPair(table, g, c);
            int amount = amount('e', 9999);
            if (amount <= above) return 0;
            for (int r = 0; r < rules; r++) {
                if (letter[r] == 'x' && reckon(testFrom[r], testTo[r]) != 0) return 0;
            }
            return amount;
        }

        /** E of the first RULE with that letter whose C holds. */
        int amount(int wanted, int bound) {
            for (int r = 0; r < rules; r++) {
                if (letter[r] == wanted && reckon(testFrom[r], testTo[r]) != 0) {
                    return Math.max(0, Math.min(bound, reckon(amountFrom[r], testFrom[r])));
                }
            }
            return 0;
        }

        /** What some steps come to; 0 if it is REFUSED, which serves a C and an E alike. */
        private int reckon(int from, int to) {
            int height = 0;
            refused = false;
            for (int at = from; at < to && at < LAW_BYTES; at++) {
                int sign = signs[at];
                if (sign == '0' || sign == 'g') {
                    if (height >= STACK) return 0;
                    stack[height] = sign == '0' ? operands[at] : facts[operands[at] & 7];
                    height++;
                    continue;
                }
                if (height < 1) return 0;
                int top = stack[height - 1];
                if (sign == '!') {
                    stack[height - 1] = top == 0 ? 1 : 0;
                } else if (sign == '&' || sign == '|') {
                    if ((sign == '|') == (top != 0)) at = Math.max(at, operands[at] - 1);
                    else height--;
                } else {
                    if (height < 2) return 0;
                    height--;
                    stack[height - 1] = combine(sign, stack[height - 1], top);
                    if (refused) return 0;
                }
            }
            return height < 1 ? 0 : stack[height - 1];
        }

        private int combine(int sign, int a, int b) {
            switch (sign) {
                case '+': return a + b;
                case '-': return a - b;
                case '*': return a * b;
                case '<': return a < b ? 1 : 0;
                case '>': return a > b ? 1 : 0;
                case '=': return a == b ? 1 : 0;
                default:
                    if (b == 0) {
                        refused = true;
                        return 0;
                    }
                    return sign == '/' ? a / b : a % b;
            }
        }
    }

    /** Reads THE LAW from the opened tape, a method for each kind of piece that the language has. */
    private static final class LawReader {
        final Text text;
        final Law draft = new Law();
        int open;

        LawReader(Text text) {
            this.text = text;
        }

        /** How many RULES there are in the draft now; or the FAULT. */
        int readLaw() {
            draft.rules = 0;
            draft.length = 0;
            open = 0;
            for (int r = 0; r <= MOST_RULES; r++) {
                if (r > 0) text.pass(';');
                readRule(r);
                if (text.fault != 0) return text.fault;
                draft.rules = r + 1;
                if (text.sign() == NONE) return draft.rules;
            }
            return text.fault;
        }

        private void readRule(int r) {
            if (text.fault != 0) return;
            int letter = text.sign();
            if (letter != 'e' && letter != 'k' && letter != 'd' && letter != 'x') {
                text.fail(FAULT_SIGN);
            } else if (r >= MOST_RULES) {
                text.fail(FAULT_RULES);
            } else {
                text.at++;
                draft.letter[r] = letter;
                draft.amountFrom[r] = draft.length;
                if (letter != 'x') readSum();
                draft.testFrom[r] = draft.length;
                readBracketed();
                draft.testTo[r] = draft.length;
            }
        }

        /** Passes one of ( [ ! unless too many are open. */
        private boolean opens(int sign) {
            if (text.fault == 0 && text.sign() == sign && open >= LAW_DEPTH) text.fail(FAULT_DEPTH);
            text.pass(sign);
            if (text.fault != 0) return false;
            open++;
            return true;
        }

        private void readBracketed() {
            if (!opens('(')) return;
            readChoice();
            text.pass(')');
            open--;
        }

        private void readChoice() {
            readPart();
            for (int i = 0; i < LAW_BYTES && text.stands('|', '|'); i++) {
                text.at++;
                int skip = draft.add('|', 0);
                readPart();
                goOnHere(skip);
            }
        }

        private void readPart() {
            readTest();
            for (int i = 0; i < LAW_BYTES && text.stands('&', '&'); i++) {
                text.at++;
                int skip = draft.add('&', 0);
                readTest();
                goOnHere(skip);
            }
        }

        private void goOnHere(int skip) {
            if (skip != NONE) draft.operands[skip] = draft.length;
        }

        private void readTest() {
            if (text.stands('!', '!')) {
                if (!opens('!')) return;
                readTest();
                draft.add('!', 0);
                open--;
            } else if (text.stands('(', '(')) {
                readBracketed();
            } else {
                readSum();
                int sign = text.sign();
                if (sign != '<' && sign != '>' && sign != '=') text.fail(FAULT_SIGN);
                if (text.fault != 0) return;
                text.at++;
                readSum();
                draft.add(sign, 0);
            }
        }

        private void readSum() {
            readProduct();
            for (int i = 0; i < LAW_BYTES && text.stands('+', '-'); i++) {
                int sign = text.sign();
                text.at++;
                readProduct();
                draft.add(sign, 0);
            }
        }

        private void readProduct() {
            readFactor();
            for (int i = 0; i < LAW_BYTES && (text.stands('*', '/') || text.stands('%', '%')); i++) {
                int sign = text.sign();
                text.at++;
                readFactor();
                draft.add(sign, 0);
            }
        }

        private void readFactor() {
            if (text.fault != 0) return;
            int sign = text.sign();
            if (sign == '[') {
                if (!opens('[')) return;
                readSum();
                text.pass(']');
                open--;
            } else if (within(sign, '0', '9')) {
                readNumber();
            } else {
                int fact = sign == NONE ? NONE : FACTS.indexOf((char) sign);
                if (fact < 0) {
                    text.fail(FAULT_SIGN);
                    return;
                }
                text.at++;
                draft.add('g', fact);
            }
        }

        private void readNumber() {
            int number = 0;
            for (int digits = 0; digits <= MOST_DIGITS && within(text.sign(), '0', '9'); digits++) {
                if (digits == MOST_DIGITS) {
                    text.fail(FAULT_DIGITS);
                    return;
                }
                number = number * 10 + text.sign() - '0';
                text.at++;
            }
            draft.add('0', number);
        }
    }

    /** Reads AN AGENDA from the opened tape and plays it by the pairs that were weighed last. */
    private static final class AgendaReader {
        final Text text;
        final Votes votes;

        AgendaReader(Text text, Votes votes) {
            this.text = text;
            this.votes = votes;
        }

        /** The MEASURE that wins; a FAULT is left in the text. */
        int readAgenda(int measureCount) {
            int winner = winnerOf(measureCount, 0);
            if (text.fault == 0 && text.sign() != NONE) text.fail(FAULT_SIGN);
            return winner;
        }

        private int winnerOf(int measureCount, int open) {
            if (text.fault != 0) return NONE;
            int sign = text.sign();
            if (within(sign, 'a', 'a' + measureCount - 1)) {
                text.at++;
                return sign - 'a';
            }
            if (sign != '(') return text.fail(FAULT_SIGN);
            if (open >= AGENDA_DEPTH) return text.fail(FAULT_DEPTH);
            text.at++;
            int left = winnerOf(measureCount, open + 1);
            int right = winnerOf(measureCount, open + 1);
            text.pass(')');
            return text.fault != 0 ? NONE : votes.winnerOf(left, right);
        }
    }

    /** Votes of the told GUESTS at a Table; its rows are made once and used by all calls. */
    private static final class Votes {
        final Table table;
        final int[] counts = new int[MOST_MEASURES];
        final int[] pairs = new int[MOST_MEASURES * MOST_MEASURES];
        final int[] beaten = new int[MOST_MEASURES];
        final int[] widths = new int[MOST_MEASURES * MOST_MEASURES];
        final int[] tally = new int[MOST_SETS * MOST_MEASURES];
        final int[] out = new int[MOST_MEASURES];
        final int[] ways = new int[MOST_SETS * MOST_MEASURES];
        final int[] row = new int[MOST_MEASURES];
        final int[] least = new int[MOST_MEASURES];
        final int[] sets = new int[GUESTS * MOST_BISCUITS + 1];
        final int[] firstOne = new int[GUESTS];
        final int[] moved = new int[MOST_MEASURES];

        Votes(Table table) {
            this.table = table;
        }

        void countFirsts() {
            tallyFirsts(table.allMeasures(), NONE);
            System.arraycopy(tally, table.allMeasures() * MOST_MEASURES, counts, 0, MOST_MEASURES);
        }

        /** FIRST ONES of some MEASURES (bits), without one GUEST, in their own row of the tally. */
        private void tallyFirsts(int among, int without) {
            int base = among * MOST_MEASURES;
            for (int i = 0; i < MOST_MEASURES; i++) tally[base + i] = 0;
            for (int g = 0; g < GUESTS; g++) {
                if (g == without || !table.isTold(g)) continue;
                int first = table.favourite(g, among);
                if (first != NONE) tally[base + first] += table.biscuits[g];
            }
        }

        void countPoints() {
            Arrays.fill(counts, 0);
            for (int g = 0; g < GUESTS; g++) {
                if (!table.isTold(g)) continue;
                for (int i = 0; i < table.measureCount; i++) {
                    for (int j = 0; j < table.measureCount; j++) {
                        if ((table.aheadOf(g, j) >> i & 1) != 0) counts[i] += table.biscuits[g];
                    }
                }
            }
        }

        void countRunOff() {
            int among = table.allMeasures();
            for (int place = 0; place < table.measureCount; place++) {
                tallyFirsts(among, NONE);
                out[place] = goesOut(among, NONE, 0);
                among &= ~(1 << out[place]);
            }
        }

        /** Which of some MEASURES goes out by the tally if one of them has some BISCUITS more. */
        private int goesOut(int among, int favoured, int more) {
            int fewest = GUESTS * MOST_BISCUITS;
            int loser = 0;
            for (int i = 0; i < table.measureCount; i++) {
                int votesFor = tally[among * MOST_MEASURES + i] + (i == favoured ? more : 0);
                if ((among >> i & 1) != 0 && votesFor <= fewest) {
                    fewest = votesFor;
                    loser = i;
                }
            }
            return loser;
        }

        int biscuitsFor(int i, int j) {
            int sum = 0;
            for (int g = 0; g < GUESTS; g++) {
                if (table.isTold(g) && (table.aheadOf(g, j) >> i & 1) != 0) sum += table.biscuits[g];
            }
            return sum;
        }

        /** EACH AGAINST EACH, and which MEASURES (bits) each one BEATS. */
        void weighPairs() {
            int count = table.measureCount;
            for (int i = 0; i < count; i++) {
                for (int j = 0; j < count; j++) pairs[i * MOST_MEASURES + j] = biscuitsFor(i, j);
            }
            for (int i = 0; i < count; i++) {
                beaten[i] = 0;
                for (int j = 0; j < count; j++) {
                    if (pairs[i * MOST_MEASURES + j] > pairs[j * MOST_MEASURES + i]) beaten[i] |= 1 << j;
                }
            }
        }

        int winnerOf(int left, int right) {
            if (!table.isMeasure(left) || !table.isMeasure(right)) return NONE;
            return (beaten[right] >> left & 1) != 0 ? right : left;
        }

        int leastBeatingSet() {
            int best = table.allMeasures();
            for (int set = 1; set <= table.allMeasures(); set++) {
                if (Integer.bitCount(set) < Integer.bitCount(best) && beatsTheRest(set)) best = set;
            }
            return best;
        }

        private boolean beatsTheRest(int set) {
            int rest = table.allMeasures() & ~set;
            for (int i = 0; i < table.measureCount; i++) {
                if ((set >> i & 1) != 0 && (rest & ~beaten[i]) != 0) return false;
            }
            return true;
        }

        void widenPaths() {
            int count = table.measureCount;
            for (int i = 0; i < count; i++) {
                for (int j = 0; j < count; j++) {
                    int at = i * MOST_MEASURES + j;
                    widths[at] = (beaten[i] >> j & 1) != 0 ? pairs[at] : 0;
                }
            }
            for (int by = 0; by < count; by++) {
                for (int i = 0; i < count; i++) {
                    for (int j = 0; j < count; j++) widen(i, by, j);
                }
            }
        }

        private void widen(int i, int by, int j) {
            int at = i * MOST_MEASURES + j;
            int round = Math.min(widths[i * MOST_MEASURES + by], widths[by * MOST_MEASURES + j]);
            widths[at] = Math.max(widths[at], round);
        }

        boolean winsPaths(int i) {
            for (int j = 0; j < table.measureCount; j++) {
                if (widths[i * MOST_MEASURES + j] < widths[j * MOST_MEASURES + i]) return false;
            }
            return true;
        }

        /**
         * How many rows MEASURE i wins. ways has, for the MEASURES of a row so far (bits) and who won
         * so far, how many ways to go on let i win: so rows need not be gone through one by one.
         */
        int countOrders(int i) {
            int all = table.allMeasures();
            Arrays.fill(ways, 0);
            ways[all * MOST_MEASURES + i] = 1;
            for (int used = all - 1; used > 0; used--) {
                for (int won = 0; won < table.measureCount; won++) {
                    if ((used >> won & 1) != 0) ways[used * MOST_MEASURES + won] = waysOn(used, won);
                }
            }
            int rows = 0;
            for (int first = 0; first < table.measureCount; first++) {
                rows += ways[(1 << first) * MOST_MEASURES + first];
            }
            return rows;
        }

        private int waysOn(int used, int won) {
            int sum = 0;
            for (int next = 0; next < table.measureCount; next++) {
                if ((used >> next & 1) == 0) {
                    sum += ways[(used | 1 << next) * MOST_MEASURES + winnerOf(won, next)];
                }
            }
            return sum;
        }

        /** The least row that is counted in ways, of which there must be one. */
        void findLeastOrder() {
            int used = 0;
            int won = 0;
            for (int place = 0; place < table.measureCount; place++) {
                for (int next = 0; next < table.measureCount; next++) {
                    int wins = place == 0 ? next : winnerOf(won, next);
                    int with = used | 1 << next;
                    if (with != used && ways[with * MOST_MEASURES + wins] > 0) {
                        least[place] = next;
                        used = with;
                        won = wins;
                        break;
                    }
                }
            }
        }

        /** Begins to count sets by the BISCUITS they have: there is just the one of nobody. */
        private void beginSets() {
            Arrays.fill(sets, 0);
            sets[0] = 1;
        }

        private void joinSets(int biscuits) {
            for (int sum = sets.length - 1; sum >= biscuits; sum--) sets[sum] += sets[sum - biscuits];
        }

        /** Sets with more than half of all that would not have it with so many BISCUITS less. */
        private int setsTurnedBy(int biscuits) {
            int all = table.allBiscuits();
            int turned = 0;
            for (int sum = 0; sum < sets.length; sum++) {
                if (2 * sum <= all && 2 * (sum + biscuits) > all) turned += sets[sum];
            }
            return turned;
        }

        int setsSwungBy(int g) {
            beginSets();
            for (int c = 0; c < GUESTS; c++) {
                if (c != g && table.isTold(c)) joinSets(table.biscuits[c]);
            }
            return setsTurnedBy(table.biscuits[g]);
        }

        int winningSets() {
            beginSets();
            for (int g = 0; g < GUESTS; g++) {
                if (table.isTold(g)) joinSets(table.biscuits[g]);
            }
            int all = table.allBiscuits();
            int winning = 0;
            for (int sum = 0; sum < sets.length; sum++) {
                if (2 * sum > all) winning += sets[sum];
            }
            return winning;
        }

        /** A set is a least one if it loses by its GUEST with fewest BISCUITS: so that one joins last. */
        int leastWinningSets() {
            beginSets();
            int found = 0;
            for (int biscuits = MOST_BISCUITS; biscuits > 0; biscuits--) {
                for (int g = 0; g < GUESTS; g++) {
                    if (!table.isTold(g) || table.biscuits[g] != biscuits) continue;
                    found += setsTurnedBy(biscuits);
                    joinSets(biscuits);
                }
            }
            return found;
        }

        /** The GUESTS (bits) to be won over for MEASURE i; NONE if even all are not enough. */
        int fewestToWin(int i) {
            countFirsts();
            for (int g = 0; g < GUESTS; g++) firstOne[g] = table.favourite(g, table.allMeasures());
            int fewest = GUESTS + 1;
            int best = NONE;
            for (int guests = 0; guests <= table.told; guests++) {
                int size = Integer.bitCount(guests);
                if ((guests & ~table.told) == 0 && size < fewest && winsWith(i, guests)) {
                    fewest = size;
                    best = guests;
                }
            }
            return best;
        }

        private boolean winsWith(int i, int guests) {
            System.arraycopy(counts, 0, moved, 0, MOST_MEASURES);
            for (int g = 0; g < GUESTS; g++) {
                if ((guests >> g & 1) == 0 || firstOne[g] == NONE) continue;
                moved[firstOne[g]] -= table.biscuits[g];
                moved[i] += table.biscuits[g];
            }
            for (int j = 0; j < table.measureCount; j++) {
                if (j != i && moved[j] >= moved[i]) return false;
            }
            return true;
        }

        /** How many lies help a GUEST; the least one is put in the row least. */
        int countLies(int g) {
            countRunOff();
            int better = table.aheadOf(g, out[table.measureCount - 1]);
            for (int among = 1; among <= table.allMeasures(); among++) tallyFirsts(among, g);
            for (int i = 0; i < MOST_MEASURES; i++) row[i] = i;
            int lies = 0;
            for (int told = 0; told < MOST_LIES; told++) {
                if ((better >> lastLeft(table.biscuits[g]) & 1) != 0) {
                    if (lies == 0) System.arraycopy(row, 0, least, 0, MOST_MEASURES);
                    lies++;
                }
                if (!nextRow()) break;
            }
            return lies;
        }

        /** Who wins the RUN OFF by the tally if one more GUEST tells the row. */
        private int lastLeft(int biscuits) {
            int among = table.allMeasures();
            int gone = 0;
            for (int place = 0; place < table.measureCount; place++) {
                gone = goesOut(among, firstInRow(among), biscuits);
                among &= ~(1 << gone);
            }
            return gone;
        }

        private int firstInRow(int among) {
            for (int place = 0; place < table.measureCount; place++) {
                if ((among >> row[place] & 1) != 0) return row[place];
            }
            return NONE;
        }

        /** Turns the row into the next one by its letters; false if it was the last one. */
        private boolean nextRow() {
            int last = table.measureCount - 1;
            int turn = last - 1;
            while (turn >= 0 && row[turn] > row[turn + 1]) turn--;
            if (turn < 0) return false;
            int other = last;
            while (other > turn && row[other] < row[turn]) other--;
            swapInRow(turn, other);
            for (int i = turn + 1, j = last; i < j; i++, j--) swapInRow(i, j);
            return true;
        }

        private void swapInRow(int i, int j) {
            int kept = row[i];
            row[i] = row[j];
            row[j] = kept;
        }

        /**
         * MEASURES (bits) that may win the FIRST ONES with some GUESTS undecided. One may win at all
         * if it wins with all of their BISCUITS: whatever else they do gives it less and others more.
         */
        int possibleWinners(int undecided) {
            countFirsts();
            int loose = 0;
            for (int g = 0; g < GUESTS; g++) {
                if ((undecided >> g & 1) == 0) continue;
                int first = table.favourite(g, table.allMeasures());
                if (first != NONE) counts[first] -= table.biscuits[g];
                loose += table.biscuits[g];
            }
            int possible = 0;
            for (int i = 0; i < table.measureCount; i++) {
                counts[i] += loose;
                if (most(counts) == i) possible |= 1 << i;
                counts[i] -= loose;
            }
            return possible;
        }
    }
}
