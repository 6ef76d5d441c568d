import java.util.ArrayList;
import java.util.Arrays;
import java.util.HashMap;
import java.util.LinkedHashSet;
import java.util.List;
import java.util.Map;
import java.util.Set;

/**
 * The document once more, as slowly and plainly as can be: every set, every row and every way to vote is
 * gone through one by one. RandomRunsTest holds TeaCabinet against it.
 */
final class PlainCabinet {
    static final class Guest {
        int seat, biscuits, hands, manners, burnt, poured;
        int[] level = new int[6];

        Guest copy() {
            Guest c = new Guest();
            c.seat = seat; c.biscuits = biscuits; c.hands = hands; c.manners = manners;
            c.burnt = burnt; c.poured = poured; c.level = level.clone();
            return c;
        }
    }

    static final class State {
        Guest[] guests = new Guest[12];
        int mother = -2, inForce, tea, spilt, x = 1;

        State copy() {
            State c = new State();
            for (int g = 0; g < 12; g++) c.guests[g] = guests[g] == null ? null : guests[g].copy();
            c.mother = mother; c.inForce = inForce; c.tea = tea; c.spilt = spilt; c.x = x;
            return c;
        }
    }

    static final class Fault extends RuntimeException {
        private static final long serialVersionUID = 1L;
        final int code;
        Fault(int number, int place) { code = -1000 * number - place; }
    }

    static final class Refused extends RuntimeException {
        private static final long serialVersionUID = 1L;
    }

    interface Num { int of(Map<Character, Integer> facts); }
    interface Cond { boolean of(Map<Character, Integer> facts); }
    record Rule(char letter, Num amount, Cond test) { }

    int m = 4, heat = 80, cups = 12;
    State s = new State();
    State kept;
    List<Rule> law = new ArrayList<>();
    String tape = "";

    // ---- texts

    static final class Reader {
        final String t;
        int p;
        int open;
        Reader(String t) { this.t = t; }
        char sign() { return p < t.length() ? t.charAt(p) : (char) 999; }
        Fault cant() { return new Fault(1, p); }
        void need(char c) { if (sign() != c) throw cant(); p++; }
        void enter() { if (open == 6) throw new Fault(5, p); open++; p++; }

        List<Rule> law() {
            List<Rule> rules = new ArrayList<>();
            do {
                if (!rules.isEmpty()) p++;
                if ("ekdx".indexOf(sign()) < 0) throw cant();
                if (rules.size() == 16) throw new Fault(4, p);
                char letter = t.charAt(p++);
                Num amount = letter == 'x' ? f -> 0 : sum();
                if (sign() != '(') throw cant();
                enter();
                Cond test = cond();
                need(')');
                open--;
                rules.add(new Rule(letter, amount, test));
            } while (sign() == ';');
            if (p < t.length()) throw cant();
            return rules;
        }

        Cond cond() {
            Cond a = part();
            while (sign() == '|') { p++; Cond x = a, y = part(); a = f -> x.of(f) || y.of(f); }
            return a;
        }

        Cond part() {
            Cond a = test();
            while (sign() == '&') { p++; Cond x = a, y = test(); a = f -> x.of(f) && y.of(f); }
            return a;
        }

        Cond test() {
            if (sign() == '!') { enter(); Cond a = test(); open--; return f -> !a.of(f); }
            if (sign() == '(') { enter(); Cond a = cond(); need(')'); open--; return a; }
            Num a = sum();
            char op = sign();
            if (op != '<' && op != '>' && op != '=') throw cant();
            p++;
            Num b = sum();
            return f -> {
                int x = a.of(f), y = b.of(f);
                return op == '<' ? x < y : op == '>' ? x > y : x == y;
            };
        }

        Num sum() {
            Num a = term();
            while (sign() == '+' || sign() == '-') {
                boolean plus = t.charAt(p++) == '+';
                Num x = a, y = term();
                a = f -> plus ? x.of(f) + y.of(f) : x.of(f) - y.of(f);
            }
            return a;
        }

        Num term() {
            Num a = factor();
            while (sign() == '*' || sign() == '/' || sign() == '%') {
                char op = t.charAt(p++);
                Num x = a, y = factor();
                a = f -> {
                    int u = x.of(f), v = y.of(f);
                    if (op == '*') return u * v;
                    if (v == 0) throw new Refused();
                    return op == '/' ? u / v : u % v;
                };
            }
            return a;
        }

        Num factor() {
            char c = sign();
            if (c == '[') { enter(); Num a = sum(); need(']'); open--; return a; }
            if (c >= '0' && c <= '9') {
                int from = p;
                while (sign() >= '0' && sign() <= '9') {
                    if (p - from == 5) throw new Fault(2, p);
                    p++;
                }
                int number = Integer.parseInt(t.substring(from, p));
                return f -> number;
            }
            if ("gclabmvt".indexOf(c) < 0) throw cant();
            p++;
            return f -> f.get(c);
        }

        int agenda(PlainCabinet cabinet) {
            char c = sign();
            if (c >= 'a' && c < 'a' + cabinet.m) { p++; return c - 'a'; }
            if (c != '(') throw cant();
            if (open == 8) throw new Fault(5, p);
            p++;
            open++;
            int a = agenda(cabinet), b = agenda(cabinet);
            need(')');
            open--;
            return cabinet.beats(b, a) ? b : a;
        }
    }

    String take(int n) {
        String t = tape.substring(0, n);
        tape = "";
        return t;
    }

    boolean has(int n, int least, int most) { return n >= least && n <= most && n <= tape.length(); }

    int law(int n) {
        if (!has(n, 1, 240)) return -1;
        try {
            law = new Reader(take(n)).law();
            return law.size();
        } catch (Fault f) {
            return f.code;
        }
    }

    int agenda(int n) {
        if (!has(n, 1, 60)) return -1;
        try {
            Reader r = new Reader(take(n));
            int won = r.agenda(this);
            if (r.p < r.t.length()) throw r.cant();
            return won;
        } catch (Fault f) {
            return f.code;
        }
    }

    int ranking(int g, int n) {
        if (!told(g) || !has(n, 1, 40)) return -1;
        String t = take(n);
        int[] level = new int[6];
        String seen = "";
        int steps = 0;
        for (int p = 0; p <= t.length(); p++) {
            boolean end = p == t.length();
            char c = end ? 0 : t.charAt(p);
            if (p % 2 == 0) {
                if (end || c < 'a' || c >= 'a' + m) return -1000 - p;
                if (seen.indexOf(c) >= 0) return -6000 - p;
                seen += c;
                level[c - 'a'] = steps;
            } else if (seen.length() == m) {
                if (!end) return -1000 - p;
            } else {
                if (end || c != '>' && c != '=') return -1000 - p;
                if (c == '>') steps++;
            }
        }
        s.guests[g].level = level;
        return steps + 1;
    }

    // ---- telling

    boolean told(int g) { return g >= 0 && g < 12 && s.guests[g] != null; }
    boolean isM(int i) { return i >= 0 && i < m; }

    boolean measures(int k) {
        if (k < 2 || k > 6) return false;
        m = k;
        for (Guest g : s.guests) if (g != null) g.level = new int[6];
        s.inForce = 0;
        kept = null;
        return true;
    }

    boolean guest(int g, int seat, int biscuits, int hands, int manners) {
        if (g < 0 || g > 11 || seat < 0 || seat > 11 || biscuits < 0 || biscuits > 20) return false;
        if (hands < 0 || hands > 99 || manners < 0 || manners > 9) return false;
        for (int c = 0; c < 12; c++) if (c != g && told(c) && s.guests[c].seat == seat) return false;
        Guest n = new Guest();
        n.seat = seat; n.biscuits = biscuits; n.hands = hands; n.manners = manners;
        s.guests[g] = n;
        return true;
    }

    boolean pot(int h, int c) {
        if (h < 0 || h > 99 || c < 0 || c > 12) return false;
        heat = h;
        cups = c;
        return true;
    }

    boolean mother(int g) {
        if (!told(g)) return false;
        s.mother = g;
        return true;
    }

    int feed(int a, int b, int c, int d, int e) {
        if (tape.length() + 20 > 260) return -1;
        StringBuilder more = new StringBuilder(tape);
        for (int v : new int[] {a, b, c, d, e}) {
            for (int k = 3; k >= 0; k--) more.append((char) (v >> 8 * k & 255));
        }
        tape = more.toString();
        return tape.length();
    }

    boolean seed(int x) {
        if (x < 0 || x > 65535) return false;
        s.x = x;
        return true;
    }

    int keep() { kept = s.copy(); return s.tea; }

    boolean undo() {
        if (kept == null) return false;
        s = kept.copy();
        return true;
    }

    // ---- teas

    Map<Character, Integer> facts(State st, int g, int c) {
        Map<Character, Integer> f = new HashMap<>();
        Guest who = st.guests[c < 0 ? g : c];
        int agree = 0, l = 0;
        if (c >= 0) {
            Guest a = st.guests[g], b = st.guests[c];
            l = (b.seat - a.seat + 12) % 12;
            for (int i = 0; i < m; i++) {
                for (int j = i + 1; j < m; j++) {
                    int x = Integer.compare(a.level[i], a.level[j]);
                    if (x != 0 && x == Integer.compare(b.level[i], b.level[j])) agree++;
                }
            }
        }
        f.put('g', g); f.put('c', Math.max(c, 0)); f.put('l', l); f.put('a', agree);
        f.put('b', who.biscuits); f.put('m', who.manners); f.put('v', who.poured); f.put('t', st.tea);
        return f;
    }

    boolean holds(Rule r, Map<Character, Integer> f) {
        try { return r.test().of(f); } catch (Refused e) { return false; }
    }

    int amount(char letter, int bound, Map<Character, Integer> f) {
        for (Rule r : law) {
            if (r.letter() != letter || !holds(r, f)) continue;
            try { return Math.max(0, Math.min(bound, r.amount().of(f))); } catch (Refused e) { return 0; }
        }
        return 0;
    }

    int liking(State st, int g, int c) {
        Map<Character, Integer> f = facts(st, g, c);
        for (Rule r : law) if (r.letter() == 'x' && holds(r, f)) return 0;
        return amount('e', 9999, f);
    }

    int asks(State st, int g) {
        int whom = -2, best = 0;
        for (int c = 0; c < 12; c++) {
            if (c == g || st.guests[c] == null) continue;
            int e = liking(st, g, c);
            if (e > best) { best = e; whom = c; }
        }
        return whom;
    }

    /** Told GUESTS from the one to the left of g round to g itself. */
    static List<Integer> round(State st, int g) {
        List<Integer> order = new ArrayList<>();
        for (int k = 1; k <= 12; k++) {
            for (int c = 0; c < 12; c++) {
                if (st.guests[c] != null && st.guests[c].seat == (st.guests[g].seat + k) % 12) order.add(c);
            }
        }
        return order;
    }

    Map<Integer, Integer> cupsOf(State st) {
        int k = amount('k', 20, facts(st, st.mother, -1));
        Map<Integer, Integer> hot = new HashMap<>();
        for (int c : round(st, st.mother)) {
            if (hot.size() < cups) hot.put(c, Math.max(0, heat - k * hot.size()));
        }
        return hot;
    }

    boolean tea(State st) {
        if (st.mother < 0 || st.tea == 9999) return false;
        int who = st.mother;
        int d = amount('d', 10, facts(st, who, -1));
        Map<Integer, Integer> hot = cupsOf(st);
        Set<Integer> fine = new LinkedHashSet<>();
        for (int c : hot.keySet()) {
            Guest guest = st.guests[c];
            if (hot.get(c) <= guest.hands) { fine.add(c); continue; }
            guest.burnt++;
            if (guest.manners > 0) guest.manners--;
        }
        List<Integer> order = round(st, who);
        st.x = (int) ((25173L * st.x + 13849L) % 65536L);
        if (st.x % 10 < d) {
            st.spilt++;
            st.mother = order.get(0);
            st.tea++;
            return true;
        }
        if (st.inForce == (1 << m) - 1) {
            st.inForce = 0;
        } else {
            int pick = -1;
            for (int i = m - 1; i >= 0; i--) {
                if ((st.inForce >> i & 1) != 0) continue;
                if (pick < 0 || st.guests[who].level[i] <= st.guests[who].level[pick]) pick = i;
            }
            st.inForce |= 1 << pick;
        }
        int[] given = new int[12];
        for (int c : fine) {
            int whom = asks(st, c);
            if (whom >= 0) given[whom] += st.guests[c].biscuits;
        }
        int most = Arrays.stream(given).max().getAsInt();
        if (most > 0) {
            for (int c : order) {
                if (given[c] == most) { st.mother = c; break; }
            }
        }
        st.guests[who].poured++;
        st.tea++;
        return true;
    }

    int teas(int n) {
        if (n < 1 || n > 60) return -1;
        if (s.mother < 0) return -2;
        int gone = 0;
        while (gone < n && tea(s)) gone++;
        return gone;
    }

    int tried(int n, int what) {
        if (n < 1 || n > 60) return -1;
        if (what < 0 || what > 3 && what < 10 || what >= 10 && !told(what - 10)) return -1;
        if (s.mother < 0) return -2;
        State t = s.copy();
        for (int i = 0; i < n; i++) tea(t);
        if (what == 0) return t.mother;
        if (what == 1) return t.inForce;
        if (what == 2) return t.spilt - s.spilt;
        if (what >= 10) return t.guests[what - 10].manners;
        int burns = 0;
        for (int g = 0; g < 12; g++) if (told(g)) burns += t.guests[g].burnt - s.guests[g].burnt;
        return burns;
    }

    int end(int n, int what) {
        if (n < 1 || n > 60 || what < 0 || what > 2) return -1;
        if (s.mother < 0) return -2;
        State t = s.copy();
        int[] begun = new int[12], decides = new int[12];
        for (int i = 0; i < n; i++) {
            int who = t.mother, spilt = t.spilt;
            if (!tea(t)) continue;
            begun[who]++;
            if (t.spilt == spilt) decides[who]++;
        }
        int best = 0;
        for (int g = 0; g < 12; g++) if (begun[g] > begun[best]) best = g;
        if (begun[best] == 0) return what == 0 ? -2 : 0;
        return what == 0 ? best : what == 1 ? begun[best] : decides[best];
    }

    int guestIs(int g, int what) {
        if (!told(g)) return -1;
        Guest x = s.guests[g];
        if (what >= 0 && what <= 5) return new int[] {x.seat, x.biscuits, x.hands, x.manners, x.burnt, x.poured}[what];
        if (what == 6) return asks(s, g);
        if (what < 10 || !isM(what - 10)) return -1;
        int place = 0;
        for (int i = 0; i < m; i++) if (x.level[i] < x.level[what - 10]) place++;
        return place;
    }

    int likes(int g, int c) { return !told(g) || !told(c) || g == c ? -1 : liking(s, g, c); }

    int cup(int g) {
        if (!told(g)) return -1;
        if (s.mother < 0) return -3;
        return cupsOf(s).getOrDefault(g, -2);
    }

    int where(int g) {
        if (!told(g)) return -1;
        if (s.mother < 0) return -3;
        if (s.mother == g) return -2;
        int best = -2, hottest = -1;
        for (int seat = 0; seat < 12; seat++) {
            boolean free = true;
            for (int c = 0; c < 12; c++) if (c != g && told(c) && s.guests[c].seat == seat) free = false;
            if (!free) continue;
            State t = s.copy();
            t.guests[g].seat = seat;
            Integer hot = cupsOf(t).get(g);
            if (hot != null && hot <= t.guests[g].hands && hot > hottest) { hottest = hot; best = seat; }
        }
        return best;
    }

    // ---- votes

    int favourite(int[] level, List<Integer> among) {
        int best = among.get(0);
        for (int i : among) if (level[i] < level[best]) best = i;
        return best;
    }

    List<Integer> all() {
        List<Integer> l = new ArrayList<>();
        for (int i = 0; i < m; i++) l.add(i);
        return l;
    }

    int[] firstsAmong(List<Integer> among, int[][] level) {
        int[] got = new int[m];
        for (int g = 0; g < 12; g++) if (told(g)) got[favourite(level[g], among)] += s.guests[g].biscuits;
        return got;
    }

    int[][] levels() {
        int[][] l = new int[12][];
        for (int g = 0; g < 12; g++) l[g] = told(g) ? s.guests[g].level : new int[6];
        return l;
    }

    static int most(int[] a) {
        int best = 0;
        for (int i = 0; i < a.length; i++) if (a[i] > a[best]) best = i;
        return best;
    }

    int asked(int[] got, int what) { return what == 10 ? most(got) : isM(what) ? got[what] : -1; }

    int firsts(int what) { return asked(firstsAmong(all(), levels()), what); }

    int points(int what) {
        int[] got = new int[m];
        for (Guest g : s.guests) {
            if (g == null) continue;
            for (int i = 0; i < m; i++) for (int j = 0; j < m; j++) if (g.level[i] < g.level[j]) got[i] += g.biscuits;
        }
        return asked(got, what);
    }

    List<Integer> outs(int[][] levels) {
        List<Integer> in = all(), out = new ArrayList<>();
        while (in.size() > 1) {
            int[] got = firstsAmong(in, levels);
            int worst = in.get(0);
            for (int i : in) if (got[i] <= got[worst]) worst = i;
            out.add(worst);
            in.remove(Integer.valueOf(worst));
        }
        out.add(in.get(0));
        return out;
    }

    int runOff(int what) {
        if (what == 10) return outs(levels()).get(m - 1);
        return what < 0 || what >= m - 1 ? -1 : outs(levels()).get(what);
    }

    int weight(int i, int j) {
        int sum = 0;
        for (Guest g : s.guests) if (g != null && g.level[i] < g.level[j]) sum += g.biscuits;
        return sum;
    }

    boolean beats(int i, int j) { return weight(i, j) > weight(j, i); }

    int pair(int i, int j) { return !isM(i) || !isM(j) || i == j ? -1 : weight(i, j); }

    int best() {
        for (int i = 0; i < m; i++) {
            boolean all = true;
            for (int j = 0; j < m; j++) all &= i == j || beats(i, j);
            if (all) return i;
        }
        return -2;
    }

    int set() {
        for (int size = 1; size <= m; size++) {
            for (int set = 1; set < 1 << m; set++) {
                if (Integer.bitCount(set) != size) continue;
                boolean good = true;
                for (int i = 0; i < m; i++) for (int j = 0; j < m; j++) {
                    if ((set >> i & 1) == 1 && (set >> j & 1) == 0) good &= beats(i, j);
                }
                if (good) return set;
            }
        }
        return -99;
    }

    int path(int i, int j, int used, int width) {
        if (i == j) return width;
        int best = 0;
        for (int k = 0; k < m; k++) {
            if ((used >> k & 1) == 0 && beats(i, k)) best = Math.max(best, path(k, j, used | 1 << k, Math.min(width, weight(i, k))));
        }
        return best;
    }

    int widest(int i, int j) { return !isM(i) || !isM(j) || i == j ? -1 : path(i, j, 1 << i, 9999); }

    int pathWinners() {
        int won = 0;
        for (int i = 0; i < m; i++) {
            boolean good = true;
            for (int j = 0; j < m; j++) good &= i == j || widest(i, j) >= widest(j, i);
            if (good) won |= 1 << i;
        }
        return won;
    }

    void rows(List<Integer> begun, List<List<Integer>> to) {
        if (begun.size() == m) { to.add(new ArrayList<>(begun)); return; }
        for (int i = 0; i < m; i++) {
            if (begun.contains(i)) continue;
            begun.add(i);
            rows(begun, to);
            begun.remove(begun.size() - 1);
        }
    }

    int orders(int i, int what) {
        if (!isM(i) || what != 10 && !isM(what)) return -1;
        List<List<Integer>> rows = new ArrayList<>();
        rows(new ArrayList<>(), rows);
        List<Integer> least = null;
        int won = 0;
        boolean[][] over = new boolean[m][m];
        for (int a = 0; a < m; a++) for (int b = 0; b < m; b++) over[a][b] = beats(a, b);
        for (List<Integer> row : rows) {
            int w = row.get(0);
            for (int x : row) if (over[x][w]) w = x;
            if (w != i) continue;
            won++;
            if (least == null) least = row;
        }
        return what == 10 ? won : least == null ? -2 : least.get(what);
    }

    int toldBits() {
        int bits = 0;
        for (int g = 0; g < 12; g++) if (told(g)) bits |= 1 << g;
        return bits;
    }

    int biscuits(int set) {
        int sum = 0;
        for (int g = 0; g < 12; g++) if ((set >> g & 1) == 1) sum += s.guests[g].biscuits;
        return sum;
    }

    int power(int g, int what) {
        boolean one = told(g) && what == 0, any = g == -1 && (what == 1 || what == 2);
        if (!one && !any) return -1;
        int told = toldBits(), all = biscuits(told), found = 0;
        for (int set = 0; set < 4096; set++) {
            if ((set & ~told) != 0) continue;
            boolean wins = biscuits(set) * 2 > all;
            if (one) {
                if ((set >> g & 1) == 0 && !wins && biscuits(set | 1 << g) * 2 > all) found++;
                continue;
            }
            if (!wins) continue;
            boolean least = true;
            for (int c = 0; c < 12; c++) if ((set >> c & 1) == 1 && biscuits(set & ~(1 << c)) * 2 > all) least = false;
            if (what == 1 || least) found++;
        }
        return found;
    }

    int wonOver(int i, int what) {
        if (!isM(i) || what < 0 || what > 1) return -1;
        int told = toldBits();
        for (int size = 0; size <= 12; size++) {
            for (int set = 0; set < 4096; set++) {
                if ((set & ~told) != 0 || Integer.bitCount(set) != size) continue;
                int[] got = new int[m];
                for (int g = 0; g < 12; g++) {
                    if (told(g)) got[(set >> g & 1) == 1 ? i : favourite(s.guests[g].level, all())] += s.guests[g].biscuits;
                }
                boolean good = true;
                for (int j = 0; j < m; j++) good &= j == i || got[i] > got[j];
                if (good) return what == 0 ? size : set;
            }
        }
        return -2;
    }

    int lie(int g, int what) {
        if (!told(g) || what != 10 && !isM(what)) return -1;
        if (m == 6) return -3;
        int now = outs(levels()).get(m - 1), lies = 0;
        List<Integer> least = null;
        List<List<Integer>> rows = new ArrayList<>();
        rows(new ArrayList<>(), rows);
        for (List<Integer> row : rows) {
            int[][] levels = levels();
            levels[g] = new int[6];
            for (int p = 0; p < m; p++) levels[g][row.get(p)] = p;
            int won = outs(levels).get(m - 1);
            if (s.guests[g].level[won] >= s.guests[g].level[now]) continue;
            lies++;
            if (least == null) least = row;
        }
        return what == 10 ? lies : least == null ? -2 : least.get(what);
    }

    int sure(int undecided, int what) {
        if (undecided < 0 || undecided > 4095 || (undecided & ~toldBits()) != 0) return -1;
        if (Integer.bitCount(undecided) > 6 || what < 0 || what > 1) return -1;
        int[] got = new int[m];
        List<Integer> loose = new ArrayList<>();
        for (int g = 0; g < 12; g++) {
            if (!told(g)) continue;
            if ((undecided >> g & 1) == 1) loose.add(s.guests[g].biscuits);
            else got[favourite(s.guests[g].level, all())] += s.guests[g].biscuits;
        }
        int may = ways(got, loose, 0);
        return what == 1 ? may : Integer.bitCount(may) == 1 ? may : 0;
    }

    int ways(int[] got, List<Integer> loose, int from) {
        if (from == loose.size()) return 1 << most(got);
        int may = 0;
        for (int i = 0; i < m; i++) {
            got[i] += loose.get(from);
            may |= ways(got, loose, from + 1);
            got[i] -= loose.get(from);
        }
        return may;
    }

    // ---- the table

    int left(int g, int n) {
        if (!told(g) || n < 1 || n > 12) return -1;
        List<Integer> order = round(s, g);
        return order.get((n - 1) % order.size());
    }

    int parted(int what) {
        if (what < 0 || what > 1) return -1;
        int best = 0, least = 9999;
        for (int f = 0; f < 6; f++) {
            int a = 0, b = 0;
            for (Guest g : s.guests) {
                if (g == null) continue;
                if (g.seat >= f && g.seat < f + 6) a += g.biscuits; else b += g.biscuits;
            }
            if (Math.abs(a - b) < least) { least = Math.abs(a - b); best = f; }
        }
        return what == 0 ? best : least;
    }

    int party(int g) {
        int bits = 0;
        for (int c = 0; c < 12; c++) if (told(c) && Arrays.equals(s.guests[c].level, s.guests[g].level)) bits |= 1 << c;
        return bits;
    }

    int alike(int what) {
        if (what != 100) return told(what) ? party(what) : -1;
        Set<Integer> parties = new LinkedHashSet<>();
        for (int g = 0; g < 12; g++) if (told(g)) parties.add(party(g));
        return parties.size();
    }

    int check(int n) {
        if (!has(n, 0, 12)) return -2;
        String t = take(n);
        for (int g = 0; g < n; g++) if (t.charAt(g) != (told(g) ? s.guests[g].manners : 0)) return g;
        return -1;
    }

    int count(int what) {
        switch (what) {
            case 0: return m;
            case 1: return toldBits();
            case 2: return s.mother;
            case 3: return s.inForce;
            case 4: return s.tea;
            case 5: return s.spilt;
            case 6: return heat;
            case 7: return cups;
            case 8: return law.size();
            case 9: return tape.length();
            case 10: return s.x;
            case 11: return biscuits(toldBits());
            default: return -1;
        }
    }
}
