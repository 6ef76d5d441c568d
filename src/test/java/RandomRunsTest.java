import java.lang.reflect.Method;
import java.util.ArrayList;
import java.util.List;
import java.util.Random;

/** Drawn runs of calls, always the same ones, answered by TeaCabinet and by PlainCabinet. */
public final class RandomRunsTest {
    private static final String[] ASKING = {"guestIs", "likes", "pair", "firsts", "points", "runOff", "best", "set",
        "widest", "pathWinners", "orders", "power", "wonOver", "lie", "sure", "cup", "where", "end", "left", "parted",
        "alike", "count", "tried", "tried", "likes", "guestIs", "where", "end"};

    private final Random random;
    private final TeaCabinet cabinet = new TeaCabinet();
    private final PlainCabinet plain = new PlainCabinet();
    private final List<String> told = new ArrayList<>();
    private int calls;
    private int wrong;

    private RandomRunsTest(long seed) { random = new Random(seed); }

    public static void main(String[] args) throws Exception {
        int runs = Integer.getInteger("runs", 300);
        long from = Long.getLong("from", 0);
        int wrong = 0;
        for (long seed = from; seed < from + runs && wrong < 5; seed++) wrong += new RandomRunsTest(seed).run(seed);
        System.out.println(wrong == 0 ? "all answers are as due" : wrong + " answers are not as due");
        if (wrong != 0) System.exit(1);
    }

    private int run(long seed) throws Exception {
        if (random.nextInt(4) > 0) call("measures", 2 + random.nextInt(5));
        int guests = random.nextInt(13);
        for (int g = 0; g < guests; g++) tellGuest(random.nextInt(12));
        if (random.nextInt(3) == 0) runOfVotes(guests);
        while (calls < 500 && wrong == 0) {
            switch (random.nextInt(16)) {
                case 0: tellGuest(random.nextInt(13) - (random.nextInt(9) == 0 ? 1 : 0)); break;
                case 1: call("mother", number(0, 11)); break;
                case 2: call("pot", number(0, 99), random.nextBoolean() ? 12 : number(0, 12)); break;
                case 3: text("law", law()); break;
                case 4: case 5: text("ranking", ranking()); break;
                case 6: text("agenda", agenda(0)); break;
                case 7: call("teas", number(1, random.nextBoolean() ? 3 : 60)); break;
                case 8: remember(); break;
                case 9: checkManners(); break;
                default: ask(ASKING[random.nextInt(ASKING.length)]);
            }
        }
        for (int what = 0; what < 12 && wrong == 0; what++) call("count", what);
        if (wrong != 0) System.out.println("run " + seed + ": " + told.get(told.size() - 1) + " after " + told);
        return wrong;
    }

    /** Votes with many RANKINGS, as GUESTS told anew soon make all alike. */
    private void runOfVotes(int guests) throws Exception {
        for (int g = 0; g < guests; g++) call("guest", g, g, number(0, 20), 99, 5);
        while (calls < 300 && wrong == 0) {
            for (int g = 0; g < guests; g++) {
                String text = random.nextInt(3) == 0 ? ranking() : ranking().replace('=', '>');
                feed(text);
                call("ranking", g, text.length());
            }
            String[] votes = {"lie", "lie", "orders", "sure", "wonOver", "widest", "runOff", "points", "set", "likes"};
            for (int i = 0; i < 20; i++) ask(votes[random.nextInt(votes.length)]);
            text("agenda", agenda(0));
        }
    }

    /** A number within bounds, and seldom one just beyond. */
    private int number(int least, int most) {
        int n = least + random.nextInt(most - least + 1);
        if (random.nextInt(40) == 0) n = random.nextBoolean() ? least - 1 : most + 1;
        if (random.nextInt(400) == 0) n = random.nextInt();
        return n;
    }

    private void tellGuest(int g) throws Exception {
        int biscuits = random.nextInt(3) == 0 ? number(0, 3) : number(0, 20);
        call("guest", g, number(0, 11), biscuits, number(random.nextBoolean() ? 60 : 0, 99), number(0, 9));
    }

    private void remember() throws Exception {
        switch (random.nextInt(10)) {
            case 0: call("measures", number(2, 6)); break;
            case 1: case 2: call("seed", number(0, 65535)); break;
            case 3: case 4: case 5: call("keep"); break;
            default: call("undo");
        }
    }

    private void checkManners() throws Exception {
        StringBuilder text = new StringBuilder();
        for (int g = 0; g < 12; g++) text.append((char) Math.max(0, plain.guestIs(g, 3)));
        if (random.nextInt(3) == 0) text.setCharAt(random.nextInt(12), (char) random.nextInt(256));
        if (random.nextInt(5) > 0) feed(text.toString());
        call("check", number(0, 12));
    }

    private void ask(String name) throws Exception {
        int m = plain.m;
        switch (name) {
            case "guestIs": call(name, number(0, 11), random.nextBoolean() ? number(0, 7) : 10 + number(0, m - 1)); break;
            case "likes": call(name, number(0, 11), number(0, 11)); break;
            case "pair": case "widest": call(name, number(0, m - 1), number(0, m - 1)); break;
            case "firsts": case "points": case "runOff": call(name, random.nextInt(3) == 0 ? 10 : number(0, m - 1)); break;
            case "orders": call(name, number(0, m - 1), random.nextBoolean() ? 10 : number(0, m - 1)); break;
            case "power": if (random.nextBoolean()) call(name, -1, number(0, 2)); else call(name, number(0, 11), number(0, 0)); break;
            case "wonOver": call(name, number(0, m - 1), number(0, 1)); break;
            case "lie": call(name, number(0, 11), random.nextBoolean() ? 10 : number(0, m - 1)); break;
            case "sure": call(name, random.nextInt(8) == 0 ? number(0, 4095) : plain.toldBits() & random.nextInt(4096) & random.nextInt(4096), number(0, 1)); break;
            case "cup": case "where": call(name, number(0, 11)); break;
            case "end": call(name, number(1, 60), number(0, 2)); break;
            case "tried": call(name, number(1, 60), random.nextBoolean() ? number(0, 3) : 10 + number(0, 11)); break;
            case "left": call(name, number(0, 11), number(1, 12)); break;
            case "parted": call(name, number(0, 1)); break;
            case "alike": call(name, random.nextBoolean() ? 100 : number(0, 11)); break;
            case "count": call(name, number(0, 11)); break;
            default: call(name);
        }
    }

    private void text(String name, String text) throws Exception {
        String changed = random.nextInt(4) == 0 ? spoilt(text) : text;
        if (changed.isEmpty() || changed.length() > 260) changed = "a";
        feed(changed);
        int n = random.nextInt(60) == 0 ? number(0, 260) : changed.length();
        if (name.equals("ranking")) call(name, number(0, 11), n); else call(name, n);
    }

    private String spoilt(String text) {
        StringBuilder b = new StringBuilder(text);
        for (int k = random.nextInt(2); k >= 0 && b.length() > 0; k--) {
            int at = random.nextInt(b.length());
            String signs = "abcdefgklmtvx0123459()[]!&|<>=+-*/%; ";
            char sign = random.nextInt(12) == 0 ? (char) random.nextInt(256) : signs.charAt(random.nextInt(signs.length()));
            switch (random.nextInt(4)) {
                case 0: b.setCharAt(at, sign); break;
                case 1: b.insert(at, sign); break;
                case 2: b.deleteCharAt(at); break;
                default: b.setLength(at);
            }
        }
        return b.toString();
    }

    private void feed(String text) throws Exception {
        for (int from = 0; from < text.length(); from += 20) {
            Object[] four = new Object[5];
            for (int k = 0; k < 5; k++) {
                int value = 0;
                for (int i = 0; i < 4; i++) {
                    int at = from + 4 * k + i;
                    value = value << 8 | (at < text.length() ? text.charAt(at) : 'a');
                }
                four[k] = value;
            }
            call("feed", four);
        }
    }

    private String ranking() {
        StringBuilder b = new StringBuilder();
        List<Integer> rest = new ArrayList<>(plain.all());
        while (!rest.isEmpty()) {
            if (b.length() > 0) b.append(random.nextInt(3) == 0 ? '=' : '>');
            b.append((char) ('a' + rest.remove(random.nextInt(rest.size()))));
        }
        return b.toString();
    }

    private String agenda(int depth) {
        if (depth > random.nextInt(10)) return String.valueOf((char) ('a' + random.nextInt(plain.m)));
        String whole = "(" + agenda(depth + 1) + agenda(depth + 2) + ")";
        return whole.length() > 60 ? "a" : whole;
    }

    private String law() {
        StringBuilder b = new StringBuilder();
        int rules = random.nextInt(10) == 0 ? 17 : 1 + random.nextInt(6);
        for (int r = 0; r < rules; r++) {
            char letter = "eeekdx".charAt(random.nextInt(6));
            String amount = letter == 'x' ? "" : letter == 'e' ? sum(0) : random.nextBoolean() ? "" + random.nextInt(12) : sum(1);
            String rule = letter + amount + "(" + (random.nextInt(3) == 0 ? "1=1" : cond(1)) + ")";
            if (b.length() + rule.length() > 238) break;
            if (b.length() > 0) b.append(';');
            b.append(rule);
        }
        return b.length() == 0 ? "e9-l(1=1)" : b.toString();
    }

    private String cond(int depth) {
        StringBuilder b = new StringBuilder(test(depth));
        while (random.nextInt(3) == 0) b.append(random.nextBoolean() ? '|' : '&').append(test(depth));
        return b.toString();
    }

    private String test(int depth) {
        if (depth < 8 && random.nextInt(4) == 0) return random.nextBoolean() ? "!" + test(depth + 1) : "(" + cond(depth + 1) + ")";
        return sum(depth) + "<>=".charAt(random.nextInt(3)) + sum(depth);
    }

    private String sum(int depth) {
        StringBuilder b = new StringBuilder(factor(depth));
        while (random.nextInt(3) == 0) b.append("+-*/%".charAt(random.nextInt(5))).append(factor(depth));
        return b.toString();
    }

    private String factor(int depth) {
        if (depth < 8 && random.nextInt(6) == 0) return "[" + sum(depth + 1) + "]";
        if (random.nextInt(3) > 0) return String.valueOf("gclabmvt".charAt(random.nextInt(8)));
        return random.nextInt(10) == 0 ? String.valueOf(random.nextInt(100000)) : String.valueOf(random.nextInt(12));
    }

    private void call(String name, Object... args) throws Exception {
        calls++;
        if (wrong != 0) return;
        Object got = method(TeaCabinet.class, name).invoke(cabinet, args);
        Object want = method(PlainCabinet.class, name).invoke(plain, args);
        StringBuilder call = new StringBuilder(name).append('(');
        for (Object a : args) call.append(call.charAt(call.length() - 1) == '(' ? "" : ", ").append(a);
        told.add(call.append(')').toString());
        if (!got.equals(want)) {
            wrong++;
            told.add(call + " answered " + got + ", due is " + want);
        }
    }

    private static Method method(Class<?> of, String name) {
        for (Method m : of.getDeclaredMethods()) {
            if (m.getName().equals(name)) return m;
        }
        throw new IllegalArgumentException(name);
    }
}
