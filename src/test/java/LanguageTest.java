import java.io.IOException;
import java.lang.reflect.Constructor;
import java.lang.reflect.Field;
import java.lang.reflect.Method;
import java.lang.reflect.Modifier;
import java.nio.file.Files;
import java.nio.file.Path;
import java.util.Arrays;
import java.util.List;
import java.util.Set;
import java.util.TreeSet;
import java.util.regex.Matcher;
import java.util.regex.Pattern;

/** What can be seen of the rules of the language from the class's face and from its text, whose path is given. */
public final class LanguageTest {
    private static final Set<String> FACE = new TreeSet<>(List.of(
            "read(int, int)", "write(int, int, int)", "pass(int)", "cut()", "sweep()", "undo()",
            "append(int)", "clearText()", "run()", "count(int)", "copy(int, int, int, int)", "order(int, int)",
            "waits(int)", "nearer(int, int)", "doneIn(int)", "idleIn()", "wouldWipe()"));
    private static final Set<String> CONSTANTS = Set.of(
            "INVALID_ARGUMENT", "ILLEGAL_STATE", "CAPACITY_EXCEEDED", "NONE");
    private static final String[] BANNED = {
        "\\bthrows?\\b", "\\btry\\b", "\\bcatch\\b", "\\bfinally\\b", "\\bsynchronized\\b", "\\bassert\\b",
        "\\bimport\\b", "\\bpackage\\b", "\\bprotected\\b", "\\bnative\\b", "\\bvar\\b", "->", "::", "Exact\\b",
        "\\bObject\\b", "\\bSystem\\.(?!arraycopy\\b)", "\\bThread\\b", "\\bException\\b", "@", "\\bwhile \\(true\\)"};

    private LanguageTest() {
    }

    public static void main(String[] args) throws IOException {
        String source = args.length > 0 ? args[0] : "src/main/java/TwinPlates.java";
        looksAtFace();
        looksAtClassesInside();
        looksAtText(Files.readString(Path.of(source)));
        Due.finish("LanguageTest");
    }

    private static void holds(String what, boolean so) {
        Due.is(what, so ? 1 : 0, 1);
    }

    private static void looksAtFace() {
        Class<?> c = TwinPlates.class;
        holds("public and final", Modifier.isPublic(c.getModifiers()) && Modifier.isFinal(c.getModifiers()));
        Set<String> face = new TreeSet<>();
        Set<String> faceNames = new TreeSet<>();
        for (Method m : c.getDeclaredMethods()) {
            if (!Modifier.isPrivate(m.getModifiers())) {
                String types = Arrays.toString(m.getParameterTypes());
                face.add(m.getName() + "(" + types.substring(1, types.length() - 1) + ")");
                faceNames.add(m.getName());
                holds(m + " is public, answers int and is not static", Modifier.isPublic(m.getModifiers())
                        && m.getReturnType() == int.class && !Modifier.isStatic(m.getModifiers()));
            }
        }
        holds("the methods of the face: " + face, face.equals(FACE));
        for (Class<?> any : withInside()) {
            for (Method m : any.getDeclaredMethods()) {
                holds(m + " bears no name of the face",
                        Modifier.isPublic(m.getModifiers()) || !faceNames.contains(m.getName()));
                holds(m + " takes at most seven parameters", m.getParameterCount() <= 7);
            }
        }
        for (Field f : c.getDeclaredFields()) {
            boolean constant = CONSTANTS.contains(f.getName());
            holds(f + " is private or a constant", Modifier.isPrivate(f.getModifiers()) || constant);
            holds(f + " is a public constant", !constant || Modifier.isPublic(f.getModifiers())
                    && Modifier.isStatic(f.getModifiers()) && f.getType() == int.class);
        }
        Constructor<?>[] constructors = c.getDeclaredConstructors();
        holds("one public constructor without parameters", constructors.length == 1
                && Modifier.isPublic(constructors[0].getModifiers()) && constructors[0].getParameterCount() == 0);
    }

    private static List<Class<?>> withInside() {
        List<Class<?>> all = new java.util.ArrayList<>(List.of(TwinPlates.class.getDeclaredClasses()));
        all.add(TwinPlates.class);
        return all;
    }

    private static void looksAtClassesInside() {
        holds("at most twelve classes", withInside().size() <= 12);
        for (Class<?> inside : TwinPlates.class.getDeclaredClasses()) {
            int modifiers = inside.getModifiers();
            holds(inside + " is static, and neither public nor protected", Modifier.isStatic(modifiers)
                    && !Modifier.isPublic(modifiers) && !Modifier.isProtected(modifiers));
        }
        for (Class<?> any : withInside()) {
            int fields = 0;
            for (Field f : any.getDeclaredFields()) {
                boolean isStatic = Modifier.isStatic(f.getModifiers());
                holds(f + " is final if it is static", !isStatic || Modifier.isFinal(f.getModifiers()));
                fields += isStatic ? 0 : 1;
            }
            holds(any + " has at most twenty fields", fields <= 20);
        }
    }

    private static void looksAtText(String text) {
        String code = text.replaceAll("(?s)/\\*.*?\\*/", "").replaceAll("//[^\n]*", "")
                .replaceAll("'(\\\\.|[^'])'", "' '").replaceAll("\"(\\\\.|[^\"])*\"", "\"\"");
        for (String banned : BANNED) {
            Matcher found = Pattern.compile(banned).matcher(code);
            holds("the text is without " + banned, !found.find());
        }
        for (char c : text.toCharArray()) {
            holds("a sign of the text is 1 to 127", c >= 1 && c <= 127);
        }
        // Rows are made in constructors and field initialisers alone, so that no call makes an object.
        Matcher made = Pattern.compile("(?m)^(.*)\\bnew\\b.*$").matcher(code);
        while (made.find()) {
            holds("made where all is made: " + made.group().trim(),
                    made.group(1).matches("\\s+(private final int\\[\\] |private final Plates\\[\\] |now |forecast |"
                            + "history |program |slots\\[slot\\] ).*"));
        }
    }
}
