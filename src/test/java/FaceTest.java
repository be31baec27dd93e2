import java.lang.reflect.Constructor;
import java.lang.reflect.Field;
import java.lang.reflect.Method;
import java.lang.reflect.Modifier;
import java.nio.file.Files;
import java.nio.file.Path;
import java.util.Arrays;
import java.util.HashSet;
import java.util.List;
import java.util.Set;
import java.util.TreeSet;
import java.util.regex.Matcher;
import java.util.regex.Pattern;

/** The public face is the document's, no more and no less; the file keeps to the language's rules. */
public final class FaceTest {
    private static final List<String> FACE = List.of(
        "int feed 5", "int back 1", "int read 0", "int place 0", "int cause 0", "int at 1", "int query 2",
        "int push 1", "int gap 0", "int mend 1", "boolean drop 1", "boolean set 2", "boolean undo 0",
        "int window 3", "int level 3", "int distance 2", "int bound 3", "int look 4", "int best 2",
        "int search 2", "int match 3", "int within 2", "int way 3", "int needs 2", "int alike 2",
        "int near 3", "int pair 2", "int odd 2", "int cover 2", "int lean 3", "int whose 2", "int rank 2",
        "int kth 3", "int slack 1", "int turns 1", "int flat 1", "int whole 1", "int fired 1",
        "boolean hold 1", "boolean restore 1", "int count 1");

    public static void main(String[] args) throws Exception {
        methodsAreTheFace();
        restIsPrivate();
        sourceKeepsToRules();
        Due.end();
    }

    private static void methodsAreTheFace() {
        Set<String> found = new TreeSet<>();
        for (Method method : WarpDesk.class.getDeclaredMethods()) {
            if (Modifier.isPrivate(method.getModifiers())) {
                continue;
            }
            boolean isPlain = Modifier.isPublic(method.getModifiers()) && !Modifier.isStatic(method.getModifiers())
                && Arrays.stream(method.getParameterTypes()).allMatch(type -> type == int.class);
            Due.is("plain " + method, isPlain, true);
            found.add(method.getReturnType() + " " + method.getName() + " " + method.getParameterCount());
        }
        Due.is("face " + found, found.equals(new TreeSet<>(FACE)), true);
    }

    private static void restIsPrivate() {
        Due.is("final", Modifier.isFinal(WarpDesk.class.getModifiers()), true);
        for (Field field : WarpDesk.class.getDeclaredFields()) {
            boolean isFace = field.getName().equals("NONE");
            Due.is("public " + field, Modifier.isPublic(field.getModifiers()), isFace);
            Due.is("private " + field, Modifier.isPrivate(field.getModifiers()), !isFace);
            Due.is("final " + field, Modifier.isFinal(field.getModifiers()), true);
        }
        Constructor<?>[] constructors = WarpDesk.class.getDeclaredConstructors();
        Due.is("constructors", constructors.length, 1);
        Due.is("constructor is public", Modifier.isPublic(constructors[0].getModifiers()), true);
        Due.is("constructor's parameters", constructors[0].getParameterCount(), 0);
        Set<String> faceNames = new HashSet<>();
        for (String call : FACE) {
            faceNames.add(call.split(" ")[1]);
        }
        Class<?>[] inside = WarpDesk.class.getDeclaredClasses();
        Due.is("at most twelve classes", inside.length < 12, true);
        for (Class<?> type : inside) {
            Due.is("static " + type, Modifier.isStatic(type.getModifiers()), true);
            Due.is("not public " + type, Modifier.isPublic(type.getModifiers()), false);
            Due.is("fields of " + type, countFields(type) <= 20, true);
            for (Method method : type.getDeclaredMethods()) {
                Due.is("own name " + method, faceNames.contains(method.getName()), false);
                Due.is("parameters of " + method, method.getParameterCount() <= 7, true);
            }
        }
    }

    private static int countFields(Class<?> type) {
        int fields = 0;
        for (Field field : type.getDeclaredFields()) {
            if (!Modifier.isStatic(field.getModifiers())) {
                fields++;
            } else {
                Due.is("final " + field, Modifier.isFinal(field.getModifiers()), true);
            }
        }
        return fields;
    }

    private static void sourceKeepsToRules() throws Exception {
        String source = Files.readString(Path.of("src/main/java/WarpDesk.java"));
        Due.is("signs 0 to 127 alone", source.chars().allMatch(sign -> sign < 128), true);
        String code = source.replaceAll("(?s)/\\*.*?\\*/", "").replaceAll("//[^\n]*", "");
        Pattern ruledOut = Pattern.compile(
            "\\b(throw|throws|try|catch|synchronized|assert|import|package|protected|native|var|double|float"
                + "|hashCode|toString|\\w+Exact|System|Thread|Random)\\b|->|::|@");
        Matcher matcher = ruledOut.matcher(code);
        while (matcher.find()) {
            Due.is("in the source: " + matcher.group(), 1, 0);
        }
        methodsAreShort(code);
    }

    private static void methodsAreShort(String code) {
        int start = -1;
        String[] lines = code.split("\n");
        for (int i = 0; i < lines.length; i++) {
            if (lines[i].matches(" {4}( {4})?(public |private |static |final )*\\w[\\w\\[\\]]* ?\\w*\\(.*\\{")) {
                start = i;
            }
            if (start >= 0 && lines[i].matches(" {4}( {4})?\\}")) {
                Due.is("short: " + lines[start], i - start < 60, true);
                start = -1;
            }
        }
    }
}
