import java.io.PrintWriter;
import java.io.StringWriter;
import java.nio.file.Path;
import java.util.ArrayList;
import java.util.HashMap;
import java.util.HashSet;
import java.util.List;
import java.util.Map;
import java.util.Set;
import java.util.TreeMap;
import java.util.TreeSet;
import java.util.regex.Matcher;
import java.util.regex.Pattern;
import java.util.spi.ToolProvider;

/** The rules of LANGUAGE.md that can be seen from what the class was compiled to. */
public final class FormTest {
    // Of the library only what the class needs now: a name more is held against rule 4 first.
    private static final Set<String> LIBRARY = Set.of("java/lang/Object.<init>", "java/lang/String.length",
        "java/lang/String.charAt", "java/lang/Math.max", "java/lang/Math.min", "java/lang/Math.abs",
        "java/lang/Math.floorDiv", "[I.clone");
    private static final int DEEPEST = 8;

    private static final Pattern CLASS = Pattern.compile("^(?:\\w+ )*class (\\S+).*\\{$");
    private static final Pattern METHOD = Pattern.compile("^  (?:[^ (]+ )*([\\w$]+)\\(.*\\);$|^  static \\{\\};$");
    private static final Pattern STEP = Pattern.compile("^ +\\d+: (\\w+)(?:.*// (?:Interface)?Method (\\S+?):)?.*");

    private final Map<String, Set<String>> calls = new TreeMap<>();
    private final Map<String, List<String>> steps = new HashMap<>();

    public static void main(String[] args) throws Exception {
        FormTest test = new FormTest();
        test.take(compiled());
        test.isNotEmpty();
        test.libraryIsAsRuleFourSays();
        test.nothingIsThrown();
        test.callsMakeNothing();
        test.callsGoEightDeep();
        Due.end();
    }

    private static String compiled() throws Exception {
        List<String> options = new ArrayList<>(List.of("-p", "-c"));
        options.add(fileOf(WarpDesk.class));
        for (Class<?> inside : WarpDesk.class.getDeclaredClasses()) {
            options.add(fileOf(inside));
        }
        StringWriter printed = new StringWriter();
        PrintWriter out = new PrintWriter(printed);
        Due.is("javap", ToolProvider.findFirst("javap").orElseThrow().run(out, out, options.toArray(new String[0])), 0);
        return printed.toString();
    }

    private static String fileOf(Class<?> type) throws Exception {
        String name = type.getName() + ".class";
        return Path.of(type.getResource("/" + name).toURI()).toString();
    }

    private void take(String text) {
        String type = "";
        String method = "";
        for (String line : text.lines().toList()) {
            Matcher isClass = CLASS.matcher(line);
            Matcher isMethod = METHOD.matcher(line);
            Matcher isStep = STEP.matcher(line);
            if (isClass.matches()) {
                type = isClass.group(1);
            } else if (isMethod.matches()) {
                String name = isMethod.group(1) == null ? "<clinit>" : isMethod.group(1);
                method = type + "." + (type.equals(name) ? "<init>" : name);
                calls.putIfAbsent(method, new TreeSet<>());
                steps.putIfAbsent(method, new ArrayList<>());
            } else if (isStep.matches()) {
                steps.get(method).add(isStep.group(1));
                if (isStep.group(2) != null) {
                    String called = isStep.group(2).replace("\"", "");
                    calls.get(method).add(called.contains(".") ? called : type + "." + called);
                }
            }
        }
    }

    private void isNotEmpty() {
        Due.is("methods seen", calls.size() > 100, true);
        Due.is("calls seen", calls.getOrDefault("WarpDesk.read", Set.of()).contains("WarpDesk$Reader.readText"), true);
        Due.is("constructors seen", calls.containsKey("WarpDesk.<init>") && calls.containsKey("WarpDesk$Tape.<init>"), true);
    }

    private void libraryIsAsRuleFourSays() {
        Due.says("4. The library: only what stands here");
        for (Set<String> called : calls.values()) {
            for (String name : called) {
                Due.is("of the library: " + name, calls.containsKey(name) || LIBRARY.contains(name), true);
            }
        }
    }

    private void nothingIsThrown() {
        Due.says("6. No throw, try, catch, synchronized");
        for (String method : steps.keySet()) {
            for (String step : List.of("athrow", "monitorenter", "invokedynamic")) {
                Due.is(step + " in " + method, steps.get(method).contains(step), false);
            }
        }
    }

    private void callsMakeNothing() {
        Due.says("All arrays are made with the object, so no call makes anything new");
        for (String method : steps.keySet()) {
            boolean isBeginning = method.endsWith("init>");
            for (String step : List.of("new", "newarray", "anewarray", "multianewarray")) {
                Due.is(step + " in " + method, steps.get(method).contains(step) && !isBeginning, false);
            }
        }
    }

    private void callsGoEightDeep() {
        Due.says("11. calls that are no recursion go at most eight deep");
        for (String method : calls.keySet()) {
            Due.is("depth of " + method, depth(method, new HashSet<>()) <= DEEPEST, true);
        }
    }

    private int depth(String method, Set<String> open) {
        if (!open.add(method)) {
            Due.is("no recursion: " + method, false, true);
            return 0;
        }
        int deepest = 0;
        for (String called : calls.getOrDefault(method, Set.of())) {
            deepest = Math.max(deepest, depth(called, open));
        }
        open.remove(method);
        return deepest + 1;
    }
}
