import java.io.IOException;
import java.lang.reflect.Constructor;
import java.lang.reflect.Field;
import java.lang.reflect.Method;
import java.lang.reflect.Modifier;
import java.nio.file.Files;
import java.nio.file.Path;
import java.util.Arrays;
import java.util.Set;
import java.util.TreeSet;
import java.util.regex.Matcher;
import java.util.regex.Pattern;

/** The class has the document's face and no other, and keeps to what can be seen of LANGUAGE.md. */
public final class FaceTest {
    private static final Path SOURCE = Path.of("src/main/java/SuitByTailors.java");
    private static final Set<String> FIELDS = Set.of("BAD", "NO", "FULL", "NONE");
    private static final Set<String> METHODS = Set.of("write(int,long)", "wipe()", "fault()", "lay()",
            "part(int,int)", "gap(int)", "closes()", "change(int,int)", "alter(int,int)", "undo()",
            "order(int)", "bribes(int)", "closed(int)", "seen(int,int,int)", "forget()",
            "inch(int,int)", "added(int,int)", "bolts(int)", "coat(int)", "pin(int)", "noPins()",
            "thumb(int)", "year(int,int,int)", "keep()", "back()", "count(int)");
    /** Words that LANGUAGE.md leaves no place for, or that this class has no need of. */
    private static final String FORBIDDEN = "\\b(import|package|catch|try|finally|throw|throws|assert"
            + "|synchronized|native|transient|volatile|System|Thread|Integer|Object|hashCode|toString|equals)\\b"
            + "|->|::|@|\\+ *\"|\" *\\+";

    private static int wrong = 0;

    private FaceTest() { }

    private static void due(String what, Object got, Object want) {
        if (!got.equals(want)) {
            wrong++;
            System.out.println(what + " is " + got + ", due is " + want);
        }
    }

    private static void face() {
        Class<?> c = SuitByTailors.class;
        due("the class's modifiers", c.getModifiers(), Modifier.PUBLIC | Modifier.FINAL);
        Set<String> fields = new TreeSet<>();
        for (Field f : c.getDeclaredFields()) {
            if (!Modifier.isPrivate(f.getModifiers())) {
                fields.add(f.getName());
                due(f.getName(), Modifier.toString(f.getModifiers()) + " " + f.getType(), "public static final int");
            }
            if (Modifier.isStatic(f.getModifiers())) {
                due(f.getName() + " is final", Modifier.isFinal(f.getModifiers()), true);
            }
        }
        due("the constants", fields, new TreeSet<>(FIELDS));
        Constructor<?>[] made = c.getDeclaredConstructors();
        due("constructors", made.length, 1);
        due("the constructor", made[0].toString(), "public SuitByTailors()");
    }

    private static void methods() {
        Set<String> names = new TreeSet<>();
        Set<String> open = new TreeSet<>();
        for (Method m : SuitByTailors.class.getDeclaredMethods()) {
            if (!Modifier.isPrivate(m.getModifiers())) {
                names.add(m.getName());
                String types = String.join(",", Arrays.stream(m.getParameterTypes()).map(Class::getName).toList());
                open.add(m.getName() + "(" + types + ")");
                due(m.getName(), Modifier.toString(m.getModifiers()) + " " + m.getReturnType(), "public int");
            }
        }
        due("the methods", open, new TreeSet<>(METHODS));
        for (Method m : SuitByTailors.class.getDeclaredMethods()) {
            if (Modifier.isPrivate(m.getModifiers())) {
                due(m.getName() + " is a name of the face", names.contains(m.getName()), false);
            }
        }
        for (Class<?> inside : SuitByTailors.class.getDeclaredClasses()) {
            due(inside.getName() + " is static", Modifier.isStatic(inside.getModifiers()), true);
            due(inside.getName() + " is public", Modifier.isPublic(inside.getModifiers()), false);
            for (Method m : inside.getDeclaredMethods()) {
                due(m + " is a name of the face", names.contains(m.getName()), false);
                due(m + " has seven parameters at most", m.getParameterCount() <= 7, true);
            }
        }
        due("twelve classes at most", SuitByTailors.class.getDeclaredClasses().length <= 11, true);
    }

    private static void source() throws IOException {
        String code = Files.readString(SOURCE).replaceAll("(?s)/\\*.*?\\*/", "").replaceAll("//[^\n]*", "");
        Matcher m = Pattern.compile(FORBIDDEN).matcher(code);
        while (m.find()) {
            due("a word in the source", m.group(), "none such");
        }
        due("signs of the source are 10, 32 to 126", code.chars().allMatch(s -> s == 10 || s >= 32 && s <= 126), true);
        onlyConstructorsMake(code);
    }

    /** Objects are made with their fields or in constructors: no call may fill the one room. */
    private static void onlyConstructorsMake(String code) {
        for (String line : code.split("\n")) {
            if (line.matches(".*\\bnew\\b.*")) {
                boolean ofField = line.matches("\\s+(private )?(final )?\\w+(\\[\\])? \\w+ = new .*;")
                        && line.matches(" {4}(private|    final|    private).*");
                boolean ofConstructor = line.matches(" {12}\\w+ = new int\\[most \\* MOST_PARTS\\];");
                due("made by a field or a constructor:" + line, ofField || ofConstructor, true);
            }
        }
    }

    public static void main(String[] args) throws IOException {
        face();
        methods();
        source();
        System.out.println("FaceTest: " + (wrong == 0 ? "all as due" : wrong + " not as due"));
        if (wrong != 0) {
            System.exit(1);
        }
    }
}
