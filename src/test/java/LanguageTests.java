import java.io.IOException;
import java.lang.reflect.Constructor;
import java.lang.reflect.Field;
import java.lang.reflect.Method;
import java.lang.reflect.Modifier;
import java.nio.file.Files;
import java.nio.file.Path;
import java.util.ArrayList;
import java.util.List;
import java.util.Set;
import java.util.TreeSet;
import java.util.regex.Matcher;
import java.util.regex.Pattern;

/** The document's face, and those rules of LANGUAGE.md that a program can look after. */
final class LanguageTests {
    private static final Path SOURCE = Path.of("src", "main", "java", "ReactiveNotebook.java");
    private static final Set<String> FACE = Set.of(
        "int addCell(int,int,int,int)", "int editCell(int,int,int,int,int)", "int deleteCell(int)",
        "int moveCell(int,int)", "int setEager(int)", "int runStale()", "int runCell(int)", "int lastRunCount()",
        "int lastRun(int)", "int cellCount()", "int variable(int)", "int status(int)", "int value(int)",
        "int valueOf(int)", "int version(int)", "int runs(int)", "int totalRuns()", "int dependencies(int)",
        "int dependents(int)", "int definers(int)", "int runnableCount()", "int runOrder(int)", "int staleCount()",
        "int undo()", "int errorCount(int)", "long digest()");
    private static final Set<String> CONSTANTS = Set.of(
        "NONE", "INVALID", "REJECTED", "FULL", "FRESH", "STALE", "MULTIPLE", "CYCLE", "UNDEFINED", "BAD_INPUT",
        "OVERFLOW", "ZERO_DIVISION");
    private static final String[] RULED_OUT = {
        "\\bthrow\\b", "\\bthrows\\b", "\\btry\\b", "\\bcatch\\b", "\\bfinally\\b", "\\bsynchronized\\b", "\\bassert\\b",
        "\\bimport\\b", "\\bpackage\\b", "\\bvar\\b", "\\bvolatile\\b", "\\bnative\\b", "\\bstrictfp\\b", "->", "::",
        "\\bSystem\\b", "\\bThread\\b", "\\bRandom\\b", "\\bObject\\b", "\\bequals\\b", "\\bhashCode\\b", "\\btoString\\b",
        "Exact\\b", "static\\s*\\{"};
    private static final Checks checks = new Checks("LanguageTests");

    public static void main(String[] args) throws IOException {
        face();
        constants();
        members();
        classesInside();
        source();
        methods();
        checks.finish();
    }

    private static void face() {
        Class<?> program = ReactiveNotebook.class;
        checks.holds("the class is public and final", program.getModifiers() == (Modifier.PUBLIC | Modifier.FINAL));
        checks.holds("it has the document's constructor alone", program.getDeclaredConstructors().length == 1
            && Modifier.isPublic(program.getDeclaredConstructors()[0].getModifiers())
            && program.getDeclaredConstructors()[0].getParameterCount() == 0);
        Set<String> found = new TreeSet<>();
        for (Method method : program.getDeclaredMethods()) {
            if (!Modifier.isPrivate(method.getModifiers())) {
                found.add(signature(method));
                checks.holds(method.getName() + " is public and nothing else", method.getModifiers() == Modifier.PUBLIC);
            }
        }
        checks.holds("the methods of the document's face: " + found, found.equals(FACE));
    }

    private static String signature(Method method) {
        List<String> types = new ArrayList<>();
        for (Class<?> type : method.getParameterTypes()) {
            types.add(type.getName());
        }
        return method.getReturnType().getName() + " " + method.getName() + "(" + String.join(",", types) + ")";
    }

    private static void constants() {
        Set<String> found = new TreeSet<>();
        for (Field field : ReactiveNotebook.class.getDeclaredFields()) {
            if (!Modifier.isPrivate(field.getModifiers())) {
                found.add(field.getName());
                checks.holds(field.getName() + " is a public constant of int", field.getType() == int.class
                    && field.getModifiers() == (Modifier.PUBLIC | Modifier.STATIC | Modifier.FINAL));
            }
        }
        checks.holds("the constants of the document's face: " + found, found.equals(CONSTANTS));
    }

    private static List<Class<?>> allClasses() {
        List<Class<?>> all = new ArrayList<>(List.of(ReactiveNotebook.class.getDeclaredClasses()));
        all.add(ReactiveNotebook.class);
        return all;
    }

    private static void members() {
        Set<String> publicNames = new TreeSet<>();
        for (String signature : FACE) {
            publicNames.add(signature.substring(signature.indexOf(' ') + 1, signature.indexOf('(')));
        }
        for (Class<?> type : allClasses()) {
            for (Method method : type.getDeclaredMethods()) {
                boolean ofTheFace = type == ReactiveNotebook.class && Modifier.isPublic(method.getModifiers());
                checks.holds(method + " bears a name of its own", ofTheFace || !publicNames.contains(method.getName()));
                checks.holds(method + " takes at most seven parameters", method.getParameterCount() <= 7);
            }
            int fields = 0;
            for (Field field : type.getDeclaredFields()) {
                boolean isStatic = Modifier.isStatic(field.getModifiers());
                fields += isStatic ? 0 : 1;
                checks.holds(field + " is final if it is static", !isStatic || Modifier.isFinal(field.getModifiers()));
            }
            checks.holds(type + " has at most twenty fields", fields <= 20);
        }
    }

    private static void classesInside() {
        Class<?>[] inside = ReactiveNotebook.class.getDeclaredClasses();
        checks.holds("at most some twelve classes", inside.length <= 11);
        for (Class<?> type : inside) {
            int modifiers = type.getModifiers();
            checks.holds(type + " is static", Modifier.isStatic(modifiers));
            checks.holds(type + " is not of the face", !Modifier.isPublic(modifiers) && !Modifier.isProtected(modifiers));
            checks.holds(type + " has no classes inside", type.getDeclaredClasses().length == 0);
            for (Constructor<?> constructor : type.getDeclaredConstructors()) {
                checks.holds(constructor + " is not of the face", !Modifier.isPublic(constructor.getModifiers()));
            }
        }
    }

    private static void source() throws IOException {
        String source = Files.readString(SOURCE);
        for (char sign : source.toCharArray()) {
            checks.holds("the source holds the signs of ASCII alone", sign < 128);
        }
        String code = source.replaceAll("(?s)/\\*.*?\\*/", " ").replaceAll("//[^\n]*", " ");
        for (String word : RULED_OUT) {
            checks.holds("no " + word, !Pattern.compile(word).matcher(code).find());
        }
    }

    /** A method's head stands in the file as a line of its own, four or eight signs in, and ends with its opening brace. */
    private static final Pattern HEAD = Pattern.compile("(    |        )(?! |(?:if|for|while|switch|else|do)\\b)([\\w\\[\\] ]*?)(\\w+)\\(.*\\) \\{");

    private static void methods() throws IOException {
        List<String> lines = Files.readAllLines(SOURCE);
        int found = 0;
        for (int start = 0; start < lines.size(); start++) {
            Matcher head = HEAD.matcher(lines.get(start));
            if (head.matches()) {
                int end = start + 1;
                while (!lines.get(end).equals(head.group(1) + "}")) {
                    end++;
                }
                found++;
                boolean isConstructor = head.group(2).isBlank() || head.group(2).equals("public ");
                method(head.group(3), isConstructor, lines.subList(start, end + 1));
            }
        }
        int due = 0;
        for (Class<?> type : allClasses()) {
            for (Method method : type.getDeclaredMethods()) {
                due += method.isSynthetic() ? 0 : 1;
            }
        }
        // Three of the four classes have a constructor of their own; Cell has none.
        checks.due("methods and constructors found in the source", found, due + 3);
    }

    private static void method(String name, boolean isConstructor, List<String> lines) {
        checks.holds(name + " has at most sixty lines", lines.size() <= 60);
        Pattern makes = Pattern.compile("\\bnew\\b");
        for (String line : lines) {
            boolean isComment = line.strip().startsWith("//");
            checks.holds(name + " makes no object: only constructors do", isConstructor || isComment || !makes.matcher(line).find());
        }
    }
}
