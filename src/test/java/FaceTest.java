import java.lang.reflect.Constructor;
import java.lang.reflect.Field;
import java.lang.reflect.Method;
import java.lang.reflect.Modifier;
import java.nio.file.Files;
import java.nio.file.Path;
import java.util.Set;
import java.util.TreeSet;
import java.util.regex.Matcher;
import java.util.regex.Pattern;

/** The public face, and those rules of LANGUAGE.md that can be seen from outside. */
public final class FaceTest {
    private static final String[] FACE = {"measures b1", "guest b5", "pot b2", "mother b1", "feed i5", "law i1", "ranking i2",
        "teas i1", "tried i2", "guestIs i2", "likes i2", "pair i2", "firsts i1", "points i1", "runOff i1", "best i0", "set i0",
        "widest i2", "pathWinners i0", "agenda i1", "orders i2", "power i2", "wonOver i2", "lie i2", "sure i2", "cup i1",
        "where i1", "end i2", "left i2", "parted i1", "alike i1", "seed b1", "keep i0", "undo b0", "check i1", "count i1"};
    private static final Set<String> LIBRARY = Set.of("Math.max", "Math.min", "Math.abs", "Math.floorMod", "Math.floorDiv",
        "Integer.bitCount", "Long.bitCount", "Arrays.fill", "Arrays.copyOf", "Arrays.copyOfRange", "System.arraycopy");
    private static final Due DUE = new Due();

    public static void main(String[] args) throws Exception {
        face();
        members();
        if (args.length > 0) language(Files.readString(Path.of(args[0])));
        DUE.finish();
    }

    private static void face() throws Exception {
        Set<String> found = new TreeSet<>();
        for (Method m : TeaCabinet.class.getDeclaredMethods()) {
            if (Modifier.isPrivate(m.getModifiers())) continue;
            DUE.is(m + " is public", Modifier.isPublic(m.getModifiers()), true);
            char answer = m.getReturnType() == boolean.class ? 'b' : m.getReturnType() == int.class ? 'i' : '?';
            for (Class<?> p : m.getParameterTypes()) DUE.is("an int for " + m, p == int.class, true);
            found.add(m.getName() + " " + answer + m.getParameterCount());
        }
        Set<String> due = new TreeSet<>(Set.of(FACE));
        DUE.is("the face " + found, found.equals(due), true);
        DUE.is("final", Modifier.isFinal(TeaCabinet.class.getModifiers()), true);
        Constructor<?>[] made = TeaCabinet.class.getDeclaredConstructors();
        DUE.is("one constructor", made.length, 1);
        DUE.is("a public one", Modifier.isPublic(made[0].getModifiers()) && made[0].getParameterCount() == 0, true);
        DUE.is("NONE", TeaCabinet.NONE, -1);
    }

    private static void members() {
        Set<String> open = new TreeSet<>();
        for (Method m : TeaCabinet.class.getDeclaredMethods()) {
            if (Modifier.isPublic(m.getModifiers())) open.add(m.getName());
        }
        for (Method m : TeaCabinet.class.getDeclaredMethods()) {
            if (Modifier.isPrivate(m.getModifiers())) DUE.is("a private " + m.getName(), open.contains(m.getName()), false);
        }
        for (Field f : TeaCabinet.class.getDeclaredFields()) {
            if (!f.getName().equals("NONE")) DUE.is("private " + f.getName(), Modifier.isPrivate(f.getModifiers()), true);
            if (Modifier.isStatic(f.getModifiers())) DUE.is("final " + f.getName(), Modifier.isFinal(f.getModifiers()), true);
        }
        for (Class<?> c : TeaCabinet.class.getDeclaredClasses()) {
            DUE.is("static " + c, Modifier.isStatic(c.getModifiers()), true);
            DUE.is("not public " + c, Modifier.isPublic(c.getModifiers()), false);
            int fields = 0;
            for (Field f : c.getDeclaredFields()) if (!Modifier.isStatic(f.getModifiers())) fields++;
            DUE.is("at most twenty fields in " + c, fields <= 20, true);
            for (Method m : c.getDeclaredMethods()) {
                DUE.is("at most seven for " + m, m.getParameterCount() <= 7, true);
                DUE.is("a name of the face inside: " + m, open.contains(m.getName()), false);
            }
        }
    }

    private static void language(String source) {
        String code = source.replaceAll("(?s)/\\*.*?\\*/", "").replaceAll("//[^\n]*", "");
        String[] ruledOut = {"throw", "throws", "try", "catch", "synchronized", "assert", "package", "Exact", "hashCode"};
        for (String word : ruledOut) {
            DUE.is("no " + word, Pattern.compile("\\b\\w*" + word + "\\b").matcher(code).find(), false);
        }
        DUE.is("no lambda", code.contains("->") || code.contains("::"), false);
        Matcher imports = Pattern.compile("import ([\\w.]+);").matcher(code);
        while (imports.find()) DUE.is("import " + imports.group(1), imports.group(1).equals("java.util.Arrays"), true);
        Matcher library = Pattern.compile("\\b(Math|Integer|Long|Arrays|System|Character|String|List|Objects)\\.\\w+").matcher(code);
        while (library.find()) DUE.is("of the library " + library.group(), LIBRARY.contains(library.group()), true);
        DUE.is("signs of 1 to 127", source.chars().allMatch(c -> c > 0 && c < 128), true);
        int from = 0;
        int line = 0;
        for (String text : source.split("\n")) {
            line++;
            if (text.matches(" {4}( {4})?(public|private|boolean|int|long|void)\\b.*\\{")) from = line;
            if (text.matches(" {4}( {4})?\\}")) DUE.is("at most sixty lines to line " + line, line - from <= 60 || from == 0, true);
        }
    }
}
