import java.io.IOException;
import java.lang.management.ManagementFactory;
import java.lang.reflect.Constructor;
import java.lang.reflect.Field;
import java.lang.reflect.Method;
import java.lang.reflect.Modifier;
import java.nio.file.Files;
import java.nio.file.Path;
import java.util.Arrays;
import java.util.Set;
import java.util.TreeSet;
import java.util.regex.Matcher;
import java.util.regex.Pattern;

/** The public face is the document's, the source keeps to what LANGUAGE.md can be asked for by its text, no call makes objects. */
public final class FaceTest {
    private static final Due DUE = new Due("the face");
    private static final String[] METHODS = {
        "int letter(int)", "int blank()", "int fault()", "int strip()", "int leaf(int, int)", "int as(int, int)",
        "int hinge(int, int)", "int at(int)", "int may(int, int)", "int move(int, int)", "int turn()", "int lay(int)",
        "int change(int, int)", "int orders(int)", "int order(int, int)", "int tops(int, int)", "int near(int)",
        "int far(int)", "int trim(int)", "int odds(int, int, int)", "int see(int, int, boolean)", "int forget()",
        "int could()", "int trial()", "int shuffles(int, int, int)", "int image()", "int restore()",
        "int count(int)", "long digest()"};

    public static void main(String[] args) throws IOException {
        members();
        documentsFace();
        source(Files.readString(Path.of("src/main/java/FoldedStrip.java")));
        room();
        Due.finish();
    }

    private static void members() {
        Set<String> open = new TreeSet<>();
        Set<String> openNames = new TreeSet<>();
        for (Method method : FoldedStrip.class.getDeclaredMethods()) {
            if (Modifier.isPrivate(method.getModifiers())) continue;
            DUE.is(method.getName() + " is public, and nothing else", method.getModifiers(), Modifier.PUBLIC);
            String takes = String.join(", ", Arrays.stream(method.getParameterTypes()).map(Class::getName).toList());
            open.add(method.getReturnType() + " " + method.getName() + "(" + takes + ")");
            openNames.add(method.getName());
        }
        DUE.row("methods", open.toString(), new TreeSet<>(Arrays.asList(METHODS)).toString());
        for (Class<?> inside : FoldedStrip.class.getDeclaredClasses()) {
            DUE.is(inside + " is static", Modifier.isStatic(inside.getModifiers()) ? 1 : 0, 1);
            DUE.is(inside + " is not public", Modifier.isPublic(inside.getModifiers()) ? 1 : 0, 0);
            for (Method method : inside.getDeclaredMethods()) {
                DUE.is(method + " bears a name of the face", openNames.contains(method.getName()) ? 1 : 0, 0);
            }
        }
        for (Method method : FoldedStrip.class.getDeclaredMethods()) {
            if (!Modifier.isPrivate(method.getModifiers())) continue;
            DUE.is(method + " bears a name of the face", openNames.contains(method.getName()) ? 1 : 0, 0);
        }
        Set<String> constants = new TreeSet<>();
        for (Field field : FoldedStrip.class.getDeclaredFields()) {
            if (!Modifier.isPrivate(field.getModifiers())) constants.add(Modifier.toString(field.getModifiers()) + " " + field.getName());
        }
        DUE.row("constants", constants.toString(), "[public static final FULL, public static final NONE, "
                + "public static final OUTSIDE, public static final STATE, public static final UNKNOWN]");
        Constructor<?>[] makers = FoldedStrip.class.getDeclaredConstructors();
        DUE.is("constructors", makers.length, 1);
        DUE.is("constructor", makers[0].getParameterCount(), 0);
        DUE.is("the class", FoldedStrip.class.getModifiers(), Modifier.PUBLIC | Modifier.FINAL);
    }

    /** Each line of the document's face: a constant with its value, the constructor, or a method that the class has. */
    private static void documentsFace() {
        String face = Doc.section("The public face");
        if (face.isEmpty()) return;
        DUE.is("the class", face.contains("public final class FoldedStrip {") ? 1 : 0, 1);
        DUE.is("the constructor", face.contains("public FoldedStrip();") ? 1 : 0, 1);
        Set<String> methods = new TreeSet<>();
        Matcher line = Pattern.compile("public (\\w+ \\w+)\\(([^)]*)\\);").matcher(face);
        while (line.find()) methods.add(line.group(1) + "(" + line.group(2).replaceAll("(\\w+) \\w+", "$1") + ")");
        DUE.row("methods of the document", methods.toString(), new TreeSet<>(Arrays.asList(METHODS)).toString());
        Matcher constants = Pattern.compile("public static final int ([^;]*);").matcher(face);
        DUE.is("constants of the document", constants.find() ? 1 : 0, 1);
        for (String constant : constants.group(1).split(", ")) {
            String[] sides = constant.split(" = ");
            DUE.is(sides[0], constantOf(sides[0]), Integer.parseInt(sides[1]));
        }
    }

    private static int constantOf(String name) {
        try {
            return FoldedStrip.class.getField(name).getInt(null);
        } catch (ReflectiveOperationException failed) {
            throw new IllegalStateException(failed);
        }
    }

    private static void source(String text) {
        String code = text.replaceAll("(?s)/\\*.*?\\*/", "").replaceAll("//[^\n]*", "");
        for (String word : new String[] {"throw", "throws", "try", "catch", "finally", "synchronized", "assert", "import",
                "package", "native", "volatile", "var", "Object", "System", "Thread", "Random", "hashCode", "toString"}) {
            Matcher matcher = Pattern.compile("\\b" + word + "\\b").matcher(code);
            DUE.is("the word " + word, matcher.find() ? 1 : 0, 0);
        }
        for (String sign : new String[] {"->", "::", "@", "[][][]"}) DUE.is("the sign " + sign, code.indexOf(sign), -1);
        Matcher uses = Pattern.compile("\\bMath\\.(\\w+)").matcher(code);
        while (uses.find()) DUE.is("Math." + uses.group(1), Set.of("max", "min").contains(uses.group(1)) ? 1 : 0, 1);
        DUE.is("signs above 126", (int) text.chars().filter(sign -> sign > 126).count(), 0);
        // Only rows and parts of an object are made, each with the field that keeps it.
        Matcher made = Pattern.compile("[^\n]*\\bnew\\b[^\n]*").matcher(code);
        while (made.find()) DUE.is("made in a field: " + made.group().strip(), made.group().contains("private final ") || made.group().strip().startsWith("final ") ? 1 : 0, 1);
    }

    private static void room() {
        com.sun.management.ThreadMXBean threads = (com.sun.management.ThreadMXBean) ManagementFactory.getThreadMXBean();
        FoldedStrip x = new FoldedStrip();
        useAll(x);
        long before = threads.getCurrentThreadAllocatedBytes();
        long without = threads.getCurrentThreadAllocatedBytes() - before;
        before = threads.getCurrentThreadAllocatedBytes();
        for (int round = 0; round < 15; round++) useAll(x);
        long made = threads.getCurrentThreadAllocatedBytes() - before - without;
        DUE.is("bytes that the calls made", Math.max(0, made), 0);
    }

    private static void useAll(FoldedStrip x) {
        for (int leaf = 0; leaf < 7; leaf++) x.letter("lbwctll".charAt(leaf));
        x.fault();
        x.strip();
        x.move(0, 1);
        x.turn();
        x.lay(17);
        x.change(1, 0);
        x.near(100);
        x.far(3);
        x.trim(1);
        x.odds(0, 1, 0);
        x.see(0, 3, false);
        x.trial();
        x.shuffles(99, 5, 1);
        x.image();
        x.restore();
        x.digest();
        x.blank();
    }
}
