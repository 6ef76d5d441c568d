import java.lang.reflect.Method;
import java.util.Random;

/**
 * Each call with each of many numbers, near and far, at tables of many kinds: none may ever throw or fail to
 * end, and all answers are those of PlainCabinet.
 */
public final class AnyNumbersTest {
    private static final int[] NUMBERS = {Integer.MIN_VALUE, Integer.MIN_VALUE + 1, -65536, -1001, -13, -12, -3, -2, -1, 0, 1, 2, 3,
        4, 5, 6, 7, 9, 10, 11, 12, 13, 16, 20, 21, 22, 31, 32, 40, 41, 59, 60, 61, 63, 64, 99, 100, 101, 240, 241, 260, 261, 4095,
        4096, 65535, 65536, Integer.MAX_VALUE - 10, Integer.MAX_VALUE};
    private static final String[] NAMES = {"measures", "guest", "pot", "mother", "feed", "law", "ranking", "teas", "tried", "guestIs",
        "likes", "pair", "firsts", "points", "runOff", "best", "set", "widest", "pathWinners", "agenda", "orders", "power",
        "wonOver", "lie", "sure", "cup", "where", "end", "left", "parted", "alike", "seed", "keep", "undo", "check", "count"};
    private static final String LAW = "e[g*c+l*b-a]/[m-t](l<7|v=0&!(t%2=0));x(g=3);k3+g(1=1);d4(g<6)";
    private static final int KINDS = 6;
    private static final Due DUE = new Due();

    private final int kind;
    private final Random random = new Random(8);
    private TeaCabinet cabinet;
    private PlainCabinet plain;
    private int calls;

    private AnyNumbersTest(int kind) throws Exception {
        this.kind = kind;
        makeAnew();
    }

    public static void main(String[] args) throws Exception {
        for (int kind = 0; kind < KINDS; kind++) {
            AnyNumbersTest test = new AnyNumbersTest(kind);
            for (String name : NAMES) test.callWithAll(name);
        }
        DUE.finish();
    }

    /** 0 nobody; 1 one GUEST; 2 a full table; 3 no MOTHER, a full tape; 4 the last TEA; 5 six MEASURES, some GUESTS. */
    private void makeAnew() throws Exception {
        cabinet = new TeaCabinet();
        plain = new PlainCabinet();
        calls = 0;
        int[] guests = {0, 1, 12, 5, 3, 4};
        if (kind == 5) both("measures", 6);
        for (int g = 0; g < guests[kind]; g++) both("guest", g, 5 * (g + kind) % 12, (7 * g + 3) % 21, 60 + 3 * g, g % 10);
        if (kind == 5) both("guest", 11, 11, 20, 0, 9);
        feed(LAW);
        both("law", LAW.length());
        DUE.is("four rules", plain.law.size(), 4);
        for (int g = 0; g < guests[kind] && kind != 5; g++) {
            feed(g % 3 == 0 ? "b>d=a>c" : g % 3 == 1 ? "d>c>b>a" : "c>a>d>b");
            both("ranking", g, 7);
        }
        if (kind != 0 && kind != 3) both("mother", 0);
        if (kind == 2 || kind == 5) both("keep");
        for (int i = 0; kind == 4 && i < 167; i++) both("teas", 60);
        for (int i = 0; i < (kind == 3 ? 13 : 2); i++) both("feed", 0x28286162, 0x29632900, random.nextInt(), -1, Integer.MIN_VALUE);
    }

    private void feed(String text) throws Exception {
        for (int from = 0; from < text.length(); from += 20) {
            Object[] five = new Object[5];
            for (int k = 0; k < 5; k++) {
                int value = 0;
                for (int at = from + 4 * k; at < from + 4 * k + 4; at++) value = value << 8 | (at < text.length() ? text.charAt(at) : 0);
                five[k] = value;
            }
            both("feed", five);
        }
    }

    private void callWithAll(String name) throws Exception {
        int wanted = method(TeaCabinet.class, name).getParameterCount();
        if (wanted == 0) both(name);
        for (int first : NUMBERS) {
            if (wanted == 1) both(name, first);
            for (int i = 0; wanted == 2 && i < NUMBERS.length; i++) both(name, first, NUMBERS[i]);
            for (int i = 0; wanted == 5 && i < 40; i++) both(name, five(first, i % 5));
        }
    }

    /** Numbers that mostly are right for a guest, with one at a place. */
    private Object[] five(int number, int place) {
        Object[] numbers = {random.nextInt(12), random.nextInt(12), random.nextInt(21), random.nextInt(100), random.nextInt(10)};
        numbers[place] = number;
        return numbers;
    }

    private void both(String name, Object... args) throws Exception {
        // An object is used for 512 calls: a further one needs a table made anew.
        if (calls >= 512) makeAnew();
        calls++;
        Object got = method(TeaCabinet.class, name).invoke(cabinet, args);
        Object want = method(PlainCabinet.class, name).invoke(plain, args);
        if (!got.equals(want)) DUE.is("kind " + kind + ": " + name + java.util.Arrays.toString(args) + ": " + got + " for " + want, false, true);
    }

    private static Method method(Class<?> of, String name) {
        for (Method m : of.getDeclaredMethods()) {
            if (m.getName().equals(name)) return m;
        }
        throw new IllegalArgumentException(name);
    }
}
