import java.io.IOException;
import java.lang.reflect.Constructor;
import java.lang.reflect.Field;
import java.lang.reflect.Method;
import java.lang.reflect.Modifier;
import java.nio.file.Files;
import java.nio.file.Path;
import java.util.ArrayList;
import java.util.Arrays;
import java.util.List;
import java.util.Set;
import java.util.TreeSet;
import java.util.regex.Pattern;

/** The public face is the document's and no more; the source keeps to what can be seen of LANGUAGE.md from outside. */
public final class FaceTest {
    private static final Check CHECK = new Check();

    private static final String FACE = """
        alone(int)int back()int best()int bond()int bridges()int centuries(int,long)int colds(int)boolean
        count(int)int dent(int,int,boolean)int doomed()int end(int)boolean evening(int)int faintest()int
        fault(int)int feed(int,int,int,int,int)int fits(int)int fog(boolean)boolean fogs(int)boolean
        friends(int)int helped()int hoarse(int)boolean image()int keep(int,int)int law(int)boolean
        log(int,int)int name(int,int)int need(int)int odds(int,int,int,int)int packed()int parts()int
        price(int,int)int rests(int,int)int richest()int ring(int)int rival(int,int,int)int
        sharpest()int shout(int,int,int)int square(int)int text(int)int tied(int,int)int undo()int weak()int
        """;

    public static void main(String[] args) throws IOException {
        constants();
        methods();
        nested();
        String source = Files.readString(Path.of("src/main/java/NameWall.java"));
        words(source);
        CHECK.end();
    }

    private static void constants() {
        CHECK.due("NONE", NameWall.NONE, -1);
        CHECK.due("HIDDEN", NameWall.HIDDEN, -1000000);
        Set<String> seen = new TreeSet<>();
        for (Field field : NameWall.class.getDeclaredFields()) {
            if (!Modifier.isPrivate(field.getModifiers())) {
                seen.add(Modifier.toString(field.getModifiers()) + " " + field.getType() + " " + field.getName());
            }
            if (Modifier.isStatic(field.getModifiers())) {
                CHECK.due(field + " is final", Modifier.isFinal(field.getModifiers()), true);
            }
        }
        same("fields", seen, Set.of("public static final int NONE", "public static final int HIDDEN"));
        Constructor<?>[] made = NameWall.class.getDeclaredConstructors();
        CHECK.due("one constructor", made.length, 1);
        CHECK.due("it is public", Modifier.isPublic(made[0].getModifiers()), true);
        CHECK.due("it takes nothing", made[0].getParameterCount(), 0);
        CHECK.due("the class is final", Modifier.isFinal(NameWall.class.getModifiers()), true);
    }

    private static String face(Method method) {
        List<String> types = new ArrayList<>();
        for (Class<?> type : method.getParameterTypes()) {
            types.add(type.getName());
        }
        return method.getName() + "(" + String.join(",", types) + ")" + method.getReturnType();
    }

    private static void methods() {
        Set<String> seen = new TreeSet<>();
        for (Method method : NameWall.class.getDeclaredMethods()) {
            if (!Modifier.isPrivate(method.getModifiers())) {
                CHECK.due(method + " is public", Modifier.isPublic(method.getModifiers()), true);
                CHECK.due(method + " is of an object", Modifier.isStatic(method.getModifiers()), false);
                seen.add(face(method));
            }
        }
        same("methods", seen, new TreeSet<>(Arrays.asList(FACE.trim().split("\\s+"))));
    }

    private static void nested() {
        Set<String> publicNames = new TreeSet<>();
        for (Method method : NameWall.class.getMethods()) {
            if (method.getDeclaringClass() == NameWall.class) {
                publicNames.add(method.getName());
            }
        }
        List<Class<?>> all = new ArrayList<>(List.of(NameWall.class));
        all.addAll(List.of(NameWall.class.getDeclaredClasses()));
        CHECK.due("some twelve classes", all.size() <= 14, true);
        for (Class<?> one : all) {
            CHECK.due(one + " is hidden or the outer one", one == NameWall.class
                    || !Modifier.isPublic(one.getModifiers()) && !Modifier.isProtected(one.getModifiers()), true);
            int fields = 0;
            for (Field field : one.getDeclaredFields()) {
                fields += Modifier.isStatic(field.getModifiers()) ? 0 : 1;
            }
            CHECK.due(one + " has some twenty fields: " + fields, fields <= 24, true);
            for (Method method : one.getDeclaredMethods()) {
                CHECK.due(method + " takes seven at most", method.getParameterCount() <= 7, true);
                CHECK.due(method + " bears no public name", Modifier.isPrivate(method.getModifiers())
                        && publicNames.contains(method.getName()), false);
            }
        }
    }

    private static void same(String what, Set<String> seen, Set<String> due) {
        Set<String> more = new TreeSet<>(seen);
        more.removeAll(due);
        Set<String> less = new TreeSet<>(due);
        less.removeAll(seen);
        CHECK.due(what + ": too many " + more + ", missing " + less, more.size() + less.size(), 0);
    }

    /** What LANGUAGE.md rules out by a word; what it leaves free is not looked for. */
    private static void words(String source) {
        String code = source.replaceAll("(?s)/\\*.*?\\*/", "").replaceAll("//.*", "");
        String imports = "import\\s+java\\.util\\.(NoSuchElementException|ArrayList|List|Arrays|Iterator)\\s*;";
        CHECK.due("imports", Pattern.compile("\\bimport\\b").matcher(code.replaceAll(imports, "")).find(), false);
        String[] without = {"::", "\\bfinally\\b", "\\bsynchronized\\b", "\\bassert\\b", "\\bgoto\\b",
            "\\bpackage\\b", "\\bSystem\\.(?!arraycopy\\b)", "\\bRandom\\b", "\\bThread\\b", "\\bstatic\\s*\\{",
            "\\.\\w+Exact\\b", "\\bMath\\.random\\b", "\" \\+", "\\+ \"", "\\bgetMessage\\b"};
        for (String word : without) {
            CHECK.due("no " + word, Pattern.compile(word).matcher(code).find(), false);
        }
        String machines = "Throwable|Exception|Error|ArrayIndexOutOfBoundsException|NullPointerException"
                + "|ClassCastException|NegativeArraySizeException|ArrayStoreException|StackOverflowError";
        CHECK.due("no catch of what the machine throws",
                Pattern.compile("catch \\(\\s*(\\w+\\s*\\|\\s*)*(" + machines + ")\\b").matcher(code).find(), false);
        String written = "throw new (IllegalStateException|IllegalArgumentException|IndexOutOfBoundsException"
                + "|ArithmeticException|UnsupportedOperationException|NoSuchElementException|RuntimeException)"
                + "\\((\"[^\"]*\")?\\);";
        String unwritten = code.replaceAll(written, "");
        CHECK.due("just such throws", Pattern.compile("\\bthrow\\b").matcher(unwritten).find(), false);
        Pattern lambda = Pattern.compile("(?m)^(?!.*\\b(case|default)\\b).*->");
        CHECK.due("no lambda", lambda.matcher(code).find(), false);
        for (char sign : source.toCharArray()) {
            if (sign > 127) {
                CHECK.due("sign " + (int) sign, true, false);
            }
        }
        shortMethods(code);
    }

    private static void shortMethods(String code) {
        String[] lines = code.split("\n");
        for (String indent : new String[] {"    ", "        "}) {
            int start = -1;
            for (int i = 0; i < lines.length; i++) {
                if (lines[i].matches(indent + "[a-zA-Z].*\\) (throws \\w+ )?\\{")) {
                    start = i;
                }
                if (start >= 0 && lines[i].equals(indent + "}")) {
                    CHECK.due("a short method: " + lines[start].trim(), i - start <= 64, true);
                    start = -1;
                }
            }
        }
    }
}
