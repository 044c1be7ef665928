import java.lang.reflect.Constructor;
import java.lang.reflect.Field;
import java.lang.reflect.Method;
import java.lang.reflect.Modifier;
import java.nio.charset.StandardCharsets;
import java.nio.file.Files;
import java.nio.file.Path;
import java.util.ArrayList;
import java.util.Collections;
import java.util.List;
import java.util.regex.Matcher;
import java.util.regex.Pattern;

/** The public face is the document's, and the source keeps to what can be seen of LANGUAGE.md. */
public final class FaceTest {
    private static final String[] FACE = {
        "write 1", "wipe 0", "fault 0", "lay 0", "cell 2", "stops 3", "track 5", "holds 1",
        "slide 4", "dig 2", "give 2", "frost 1", "undo 0", "aim 1", "gain 2", "spoil 3",
        "cure 4", "pieces 1", "bridge 3", "seen 3", "forget 0", "lies 1", "heavy 3",
        "likely 5", "winter 3", "keep 0", "back 0", "count 1"};
    private static final String[] FORBIDDEN = {
        "\\bthrow\\b", "\\bthrows\\b", "\\btry\\b", "\\bcatch\\b", "\\bsynchronized\\b", "\\bassert\\b",
        "->", "::", "\\bimport\\b", "\\bpackage\\b", "\\bSystem\\.(?!arraycopy)", "\\bvar\\b", "Exact\\b"};

    public static void main(String[] args) throws Exception {
        Check check = new Check();
        checkMembers(check);
        checkMethods(check);
        checkClassesInside(check);
        checkSource(check);
        check.close("FaceTest");
    }

    private static void checkMembers(Check check) {
        Class<?> face = EstateSlopes.class;
        check.holds("the class is public and final",
                Modifier.isPublic(face.getModifiers()) && Modifier.isFinal(face.getModifiers()));
        Constructor<?>[] made = face.getDeclaredConstructors();
        check.holds("one public constructor without parameters", made.length == 1
                && Modifier.isPublic(made[0].getModifiers()) && made[0].getParameterCount() == 0);
        List<String> open = new ArrayList<>();
        for (Field field : face.getDeclaredFields()) {
            if (!Modifier.isPrivate(field.getModifiers())) {
                open.add(field.getName());
            }
            boolean fixed = !Modifier.isStatic(field.getModifiers()) || Modifier.isFinal(field.getModifiers());
            check.holds(field.getName() + " is final if it is static", fixed);
        }
        Collections.sort(open);
        check.holds("the fields to be seen are the four constants, not " + open,
                open.equals(List.of("BAD", "FULL", "NO", "NONE")));
        check.due("BAD", EstateSlopes.BAD, -1);
        check.due("NO", EstateSlopes.NO, -2);
        check.due("FULL", EstateSlopes.FULL, -3);
        check.due("NONE", EstateSlopes.NONE, -4);
    }

    private static void checkMethods(Check check) {
        List<String> open = new ArrayList<>();
        List<String> hidden = new ArrayList<>();
        for (Method method : EstateSlopes.class.getDeclaredMethods()) {
            if (Modifier.isPrivate(method.getModifiers())) {
                hidden.add(method.getName());
                continue;
            }
            open.add(method.getName() + " " + method.getParameterCount());
            check.holds(method.getName() + " is public and answers an int",
                    Modifier.isPublic(method.getModifiers()) && method.getReturnType() == int.class);
        }
        List<String> want = new ArrayList<>(List.of(FACE));
        Collections.sort(want);
        Collections.sort(open);
        check.holds("the public methods are the document's, not " + open, open.equals(want));
        for (String name : hidden) {
            check.holds("the hidden method " + name + " does not bear a public name", !isPublicName(name));
        }
    }

    /** Rules 1, 2 and 11: static classes, some twelve, none with too much in it. */
    private static void checkClassesInside(Check check) {
        Class<?>[] inside = EstateSlopes.class.getDeclaredClasses();
        check.holds("some twelve classes at most", inside.length + 1 <= 12);
        for (Class<?> one : inside) {
            check.holds(one + " is static and not public", Modifier.isStatic(one.getModifiers())
                    && !Modifier.isPublic(one.getModifiers()) && !Modifier.isProtected(one.getModifiers()));
            check.holds(one + " has some twenty fields at most", one.getDeclaredFields().length <= 20);
            for (Method method : one.getDeclaredMethods()) {
                check.holds(method + " takes seven at most", method.getParameterCount() <= 7);
                check.holds(method + " does not bear a public name", !isPublicName(method.getName()));
            }
        }
    }

    private static boolean isPublicName(String name) {
        for (String open : FACE) {
            if (open.startsWith(name + " ")) {
                return true;
            }
        }
        return false;
    }

    private static void checkSource(Check check) throws Exception {
        String path = System.getProperty("source", "src/main/java/EstateSlopes.java");
        String source = Files.readString(Path.of(path), StandardCharsets.ISO_8859_1);
        String code = source.replaceAll("(?s)/\\*.*?\\*/", " ").replaceAll("//[^\n]*", " ")
                .replaceAll("\"[^\"\n]*\"", "\"\"");
        for (String word : FORBIDDEN) {
            Matcher found = Pattern.compile(word).matcher(code);
            check.holds("no " + word + " in the source", !found.find());
        }
        check.holds("signs 1 to 127 alone", source.chars().allMatch(sign -> sign >= 1 && sign <= 127));
    }
}
