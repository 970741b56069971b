import java.io.IOException;
import java.lang.management.ManagementFactory;
import java.lang.reflect.Method;
import java.lang.reflect.Modifier;
import java.nio.file.Files;
import java.nio.file.Path;
import java.util.ArrayList;
import java.util.List;
import java.util.TreeSet;
import java.util.regex.Matcher;
import java.util.regex.Pattern;

/**
 * The form of the program: its face, the rules of LANGUAGE.md that its text shows, and how much it
 * makes. The first argument is the program's file.
 */
public final class FormTest {
    private static final List<String> FACE = List.of(
            "int place(int)", "int set(int,int,int)", "int doing(int,int)", "int told(int,int,int)",
            "int feed(int,long)", "int text()", "int force(int)", "int worth()",
            "long parts(int,int,int)", "long mean(int)", "int takes(int,int)", "long odds(int,int)",
            "int drawn(int,int)", "int judge(int)", "long value(int,int)", "int best(int,int)",
            "long look(int)", "long rises(int)", "long more(int)", "int worst()", "int last()",
            "int image()", "int back()", "int count(int)", "int sheet(int,int,int)",
            "int cell(int,int,int)", "int copy(int,int,int,int,int)", "int places(int,int,int,int)",
            "int taken(int,int)");
    private static final List<String> CONSTANTS = List.of("NONE", "BAD", "STATE", "FULL", "NO");

    private static final Path DOCUMENT = Path.of("../shared/DOC.md");

    private final Checks checks = new Checks();

    public static void main(String[] args) throws IOException {
        FormTest test = new FormTest();
        test.face();
        if (Files.exists(DOCUMENT)) {
            test.faceOfDocument(Files.readString(DOCUMENT));
        }
        test.names();
        test.source(Files.readString(Path.of(args.length > 0 ? args[0] : "src/main/java/RiverDown.java")));
        test.room();
        test.checks.end();
    }

    private static String told(Method method) {
        List<String> types = new ArrayList<>();
        for (Class<?> type : method.getParameterTypes()) {
            types.add(type.getSimpleName());
        }
        return method.getReturnType().getSimpleName() + " " + method.getName() + "(" + String.join(",", types) + ")";
    }

    private void face() {
        checks.begin("the face");
        TreeSet<String> methods = new TreeSet<>();
        for (Method method : RiverDown.class.getDeclaredMethods()) {
            if (Modifier.isPublic(method.getModifiers())) {
                methods.add(told(method));
            } else {
                checks.holds(method + " is private", Modifier.isPrivate(method.getModifiers()));
            }
        }
        checks.holds("the public methods are the document's: " + methods, methods.equals(new TreeSet<>(FACE)));
        for (var field : RiverDown.class.getDeclaredFields()) {
            int modifiers = field.getModifiers();
            checks.holds(field + " is in its place",
                    CONSTANTS.contains(field.getName()) ? Modifier.isPublic(modifiers) : Modifier.isPrivate(modifiers));
            checks.holds(field + " is no static state", !Modifier.isStatic(modifiers) || Modifier.isFinal(modifiers));
        }
        checks.due("constructors", RiverDown.class.getDeclaredConstructors().length, 1);
        checks.holds("the class is public and final", Modifier.isPublic(RiverDown.class.getModifiers())
                && Modifier.isFinal(RiverDown.class.getModifiers()));
        checks.due("NONE", RiverDown.NONE, -1);
        checks.due("BAD", RiverDown.BAD, -2);
        checks.due("STATE", RiverDown.STATE, -3);
        checks.due("FULL", RiverDown.FULL, -4);
        checks.due("NO", RiverDown.NO, -4611686018427387904L);
    }

    /** The face that the program is held against is the one that the document tells. */
    private void faceOfDocument(String document) {
        checks.begin("the document's face");
        TreeSet<String> methods = new TreeSet<>();
        Matcher told = Pattern.compile("(?m)^    public (int|long) (\\w+)\\(([^)]*)\\);$").matcher(document);
        while (told.find()) {
            String types = told.group(3).replaceAll(" \\w+, ", ",").replaceAll(" \\w+$", "");
            methods.add(told.group(1) + " " + told.group(2) + "(" + types + ")");
        }
        checks.holds("its calls are those: " + methods, methods.equals(new TreeSet<>(FACE)));
        Matcher constants = Pattern.compile("(?m)^    public static final (?:int|long) (.*);$").matcher(document);
        List<String> names = new ArrayList<>();
        while (constants.find()) {
            for (String constant : constants.group(1).split(", ")) {
                names.add(constant.substring(0, constant.indexOf(' ')));
            }
        }
        checks.holds("its constants are those: " + names, names.equals(CONSTANTS));
    }

    /** No private method bears the name of a public one, in the classes inside neither. */
    private void names() {
        checks.begin("names and sizes");
        TreeSet<String> names = new TreeSet<>();
        for (String method : FACE) {
            names.add(method.substring(method.indexOf(' ') + 1, method.indexOf('(')));
        }
        List<Class<?>> classes = new ArrayList<>(List.of(RiverDown.class.getDeclaredClasses()));
        checks.holds("some twelve classes at most", classes.size() <= 11);
        for (Class<?> inside : classes) {
            checks.holds(inside + " is static", Modifier.isStatic(inside.getModifiers()));
            for (Method method : inside.getDeclaredMethods()) {
                checks.holds(method + " has a name of its own", !names.contains(method.getName()));
            }
        }
        classes.add(RiverDown.class);
        for (Class<?> each : classes) {
            int fields = 0;
            for (var field : each.getDeclaredFields()) {
                fields += Modifier.isStatic(field.getModifiers()) ? 0 : 1;
            }
            checks.holds(each + " has some twenty fields at most", fields <= 20);
            for (Method method : each.getDeclaredMethods()) {
                checks.holds(method + " has seven parameters at most", method.getParameterCount() <= 7);
            }
        }
    }

    private void source(String whole) {
        checks.begin("the program's text");
        String code = whole.replaceAll("(?s)/\\*.*?\\*/", " ").replaceAll("//[^\n]*", " ").replaceAll("\"[^\"\n]*\"", "\"\"");
        for (String word : List.of("throw", "throws", "try", "catch", "finally", "synchronized", "assert", "package",
                "double", "float", "System.out", "Exact", "Thread", "Random", "equals", "hashCode", "toString")) {
            Matcher matcher = Pattern.compile("\\b" + Pattern.quote(word) + "\\b").matcher(code);
            checks.holds("there is no " + word, !matcher.find());
        }
        for (String sign : List.of("->", "::", "@")) {
            checks.holds("there is no " + sign, !code.contains(sign));
        }
        Matcher imports = Pattern.compile("\\bimport\\s+([^;]+);").matcher(code);
        while (imports.find()) {
            checks.holds("import " + imports.group(1), List.of("java.util.Arrays", "java.util.ArrayList", "java.util.List")
                    .contains(imports.group(1)));
        }
        Matcher whiles = Pattern.compile("while\\s*\\(").matcher(code);
        int count = 0;
        while (whiles.find()) {
            count++;
        }
        checks.holds("loops are counted ones, but for one", count <= 1);
        shortMethods(whole);
    }

    /** A method's closing bracket stands as far in as its first line. */
    private void shortMethods(String whole) {
        String[] lines = whole.split("\n");
        Pattern head = Pattern.compile("^( {4,8})[\\w].*\\) \\{$");
        for (int i = 0; i < lines.length; i++) {
            Matcher method = head.matcher(lines[i]);
            if (method.matches()) {
                int end = i;
                while (end < lines.length && !lines[end].equals(method.group(1) + "}")) {
                    end++;
                }
                checks.holds(lines[i].trim() + " is short", end - i < 60);
            }
        }
    }

    /** All calls of a run share one room: 512 of the dearest make next to nothing. */
    private void room() {
        checks.begin("room");
        var threads = (com.sun.management.ThreadMXBean) ManagementFactory.getThreadMXBean();
        long before = threads.getCurrentThreadAllocatedBytes();
        RiverDown x = new RiverDown();
        long made = threads.getCurrentThreadAllocatedBytes() - before;
        checks.holds("an object is small: " + made + " bytes", made < 40000);
        for (int i = 0; i < 12; i++) {
            x.place(551);
        }
        for (int i = 0; i < 8; i++) {
            x.doing(i % 6, i);
        }
        before = threads.getCurrentThreadAllocatedBytes();
        long sum = 0;
        for (int i = 0; i < 30; i++) {
            sum += x.look(i % 12) + x.rises(i % 10) + x.more(i % 2) + x.worst() + x.last() + x.value(0, 660 - i);
            sum += x.best(0, 600 + i) + x.sheet(0, i % 3, 12) + x.parts(0, 11, 2) + x.mean(0) + x.drawn(0, i) + x.odds(0, 3);
            sum += x.image() + x.back() + x.feed(8, sum) + x.judge(0) + x.takes(0, 1);
        }
        for (int i = 0; i < 100; i++) {
            x.feed(1, 'r');
            x.text();
        }
        made = threads.getCurrentThreadAllocatedBytes() - before;
        checks.holds("700 calls make next to nothing: " + made + " bytes", made < 20000);
        checks.holds("they answered", sum != 0);
    }
}
