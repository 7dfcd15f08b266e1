import java.io.IOException;
import java.lang.reflect.Field;
import java.lang.reflect.Method;
import java.lang.reflect.Modifier;
import java.nio.file.Files;
import java.nio.file.Path;
import java.util.Arrays;
import java.util.HashSet;
import java.util.List;
import java.util.Set;
import java.util.TreeSet;
import java.util.regex.Matcher;
import java.util.regex.Pattern;

/** The rules of LANGUAGE.md that can be seen by reflection or in the source (whose path ICE_SOURCE tells). */
public final class RulesTest {
    private static final String[] FACE = {"block(int,int,int)", "blockOf(int,int)", "turn(int,int)", "take(int,int)",
        "on(int)", "water(int,int)", "candle(int,int,int)", "lit(int,boolean)", "cold(int)", "warmth(int)", "light()",
        "hours(int)", "fall()", "loose()", "weak()", "ahead(int,int)", "goes(int)", "holds()", "deal(int)", "bears(int)",
        "needs(int,int)", "mend(int)", "whose(int)", "drawing(int,int,int)", "order(int)", "steps(int)", "shakes(int)",
        "dance(int)", "tune()", "wind(int)", "seed(int)", "feed(int,int)", "wipe()", "text()", "hold(int,int)",
        "as(int,int)", "sheet(int,int,int)", "write(int,int,int)", "copy(int,int,int,int,int)", "load(int)",
        "judge(int)", "image()", "undo()", "tear()", "count(int)", "status(int)"};
    private static final Set<Class<?>> CONSTANTS = Set.of(int.class, long.class, boolean.class, char.class, String.class,
        int[].class, long[].class, char[].class, byte[].class);
    private static final List<String> LIBRARY = List.of("System.arraycopy", "Arrays.fill", "Math.min", "Math.abs",
        "Integer.bitCount");

    private static final Due DUE = new Due("RulesTest");

    public static void main(String[] args) throws IOException {
        String path = System.getenv("ICE_SOURCE");
        String source = Files.readString(Path.of(path == null ? "src/main/java/IcePalace.java" : path));
        face();
        classes();
        words(bare(source));
        lengths(bare(source));
        DUE.end();
    }

    private static void face() {
        Class<?> c = IcePalace.class;
        DUE.holds("rule 1: public and final", Modifier.isPublic(c.getModifiers()) && Modifier.isFinal(c.getModifiers()));
        DUE.holds("rule 1: one constructor, public", c.getDeclaredConstructors().length == 1
            && Modifier.isPublic(c.getDeclaredConstructors()[0].getModifiers())
            && c.getDeclaredConstructors()[0].getParameterCount() == 0);
        Set<String> open = new TreeSet<>();
        for (Method m : c.getDeclaredMethods()) {
            if (Modifier.isPrivate(m.getModifiers())) {
                continue;
            }
            String types = String.join(",", Arrays.stream(m.getParameterTypes()).map(Class::getName).toList());
            open.add(m.getName() + "(" + types + ")");
            DUE.holds("rule 1: " + m, Modifier.isPublic(m.getModifiers()) && !Modifier.isStatic(m.getModifiers())
                && m.getReturnType() == int.class && m.getExceptionTypes().length == 0);
        }
        DUE.holds("rule 1: the face " + open, open.equals(new TreeSet<>(Arrays.asList(FACE))));
        for (Field f : c.getDeclaredFields()) {
            DUE.holds("rule 1: " + f + " is private", Modifier.isPrivate(f.getModifiers()));
        }
    }

    private static void classes() {
        Set<String> names = new HashSet<>();
        for (String call : FACE) {
            names.add(call.substring(0, call.indexOf('(')));
        }
        Class<?>[] inside = IcePalace.class.getDeclaredClasses();
        DUE.holds("rule 11: some twelve classes", inside.length < 12);
        for (Class<?> c : inside) {
            int is = c.getModifiers();
            DUE.holds("rule 1, 2: " + c, Modifier.isStatic(is) && !Modifier.isPublic(is) && !Modifier.isProtected(is));
            for (Method m : c.getDeclaredMethods()) {
                DUE.holds("rule 1: no name of the face: " + m, !names.contains(m.getName()));
            }
            members(c);
        }
        for (Method m : IcePalace.class.getDeclaredMethods()) {
            DUE.holds("rule 1: " + m, Modifier.isPublic(m.getModifiers()) || !names.contains(m.getName()));
        }
        members(IcePalace.class);
    }

    private static void members(Class<?> c) {
        int fields = 0;
        for (Field f : c.getDeclaredFields()) {
            if (Modifier.isStatic(f.getModifiers())) {
                DUE.holds("rule 5: " + f, Modifier.isFinal(f.getModifiers()) && CONSTANTS.contains(f.getType()));
            } else {
                fields++;
            }
        }
        DUE.holds("rule 11: some twenty fields in " + c, fields <= 20);
        for (Method m : c.getDeclaredMethods()) {
            DUE.holds("rule 11: seven parameters: " + m, m.getParameterCount() <= 7);
        }
    }

    /** The source without comments, and with empty strings and signs. */
    private static String bare(String source) {
        return source.replaceAll("(?s)/\\*.*?\\*/", "").replaceAll("//[^\n]*", "").replaceAll("\"[^\"\n]*\"", "\"\"")
            .replaceAll("'[^'\n]+'", "' '");
    }

    private static void words(String code) {
        for (String word : List.of("throw", "throws", "try", "catch", "finally", "synchronized", "assert", "package",
            "native", "volatile", "transient", "yield", "record", "var", "Object", "Random", "Thread", "hashCode",
            "toString", "equals", "getClass", "values")) {
            DUE.holds("no " + word, !Pattern.compile("\\b" + word + "\\b").matcher(code).find());
        }
        DUE.holds("rule 2: no lambda or method reference", !code.contains("->") && !code.contains("::"));
        DUE.holds("rule 5: no static initialiser", !Pattern.compile("static\\s*\\{").matcher(code).find());
        DUE.holds("rule 9: no loop without a bound", !Pattern.compile("while\\s*\\(\\s*true|;\\s*;").matcher(code).find());
        Matcher calls = Pattern.compile("\\b(System|Arrays|Math|Integer|Long)\\.\\w+").matcher(code);
        while (calls.find()) {
            DUE.holds("rule 4: " + calls.group(), LIBRARY.contains(calls.group()));
        }
        Matcher imports = Pattern.compile("import [^;]*;").matcher(code);
        while (imports.find()) {
            DUE.holds(imports.group(), imports.group().equals("import java.util.Arrays;"));
        }
        // All rows are made with the object, so calls add nothing to the room.
        Matcher made = Pattern.compile("[^\n]*\\bnew\\b[^\n]*").matcher(code);
        while (made.find()) {
            DUE.holds("made with the object:" + made.group(),
                made.group().matches(" +(private )?final .*| +sheets\\[s\\] = new Sheet\\(\\);"));
        }
    }

    private static void lengths(String code) {
        String[] lines = code.split("\n");
        int start = -1;
        String indent = "";
        for (int i = 0; i < lines.length; i++) {
            Matcher head = Pattern.compile("( {4}| {8})\\S.*\\) \\{").matcher(lines[i]);
            if (head.matches() && !lines[i].matches(" +(if|for|while|switch|\\}).*")) {
                start = i;
                indent = head.group(1);
            } else if (start >= 0 && lines[i].equals(indent + "}")) {
                DUE.holds("rule 11: short: " + lines[start].trim(), i - start <= 60);
                start = -1;
            }
        }
    }
}
