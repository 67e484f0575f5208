import java.io.IOException;
import java.lang.reflect.Constructor;
import java.lang.reflect.Field;
import java.lang.reflect.Method;
import java.lang.reflect.Modifier;
import java.nio.file.Files;
import java.nio.file.Path;
import java.util.Arrays;
import java.util.List;
import java.util.Set;
import java.util.TreeSet;
import java.util.regex.Matcher;
import java.util.regex.Pattern;
import java.util.stream.Collectors;

/**
 * The public face of the class, and the rules of ../shared/LANGUAGE.md that can be seen from the names
 * and the words of the program. The program's path is the one argument.
 */
public final class LanguageTests {
    private static final String FACE = """
        int createRegister(int)
        int createCounter(int)
        int createQueue()
        int createSet()
        int objectCount()
        int typeOf(int)
        int reset()
        int invokeRead(int,int)
        int invokeWrite(int,int,int)
        int invokeCompareAndSet(int,int,int,int)
        int invokeGet(int,int)
        int invokeAdd(int,int,int)
        int invokeEnqueue(int,int,int)
        int invokeDequeue(int,int)
        int invokeInsert(int,int,int)
        int invokeRemove(int,int,int)
        int invokeContains(int,int,int)
        int respond(int,int)
        int crash(int)
        int undo()
        int eventCount()
        int operationCount()
        int kindOf(int)
        int threadOf(int)
        int objectOf(int)
        int invocationTime(int)
        int responseTime(int)
        int resultOf(int)
        int precedes(int,int)
        int maxPending()
        int longestChain()
        int isLinearizable()
        int isObjectLinearizable(int)
        int isSequentiallyConsistent()
        int countLinearizations()
        int firstLinearizationLength()
        int firstLinearizationAt(int)
        int firstViolation()
        int canRespond(int,int)
        int countResponses(int)
        int appendToOrder(int)
        int removeFromOrder(int)
        int orderSize()
        int orderAt(int)
        int isOrderLinearization()
        int firstBadPosition()
        int appendCharacter(int)
        int clearText()
        int parseText()
        int saveSnapshot()
        int restoreSnapshot()
        """;
    private static final String CONSTANTS = """
        REGISTER=0 COUNTER=1 QUEUE=2 SET=3 READ=0 WRITE=1 COMPARE_AND_SET=2 GET=3 ADD=4 ENQUEUE=5 DEQUEUE=6
        INSERT=7 REMOVE=8 CONTAINS=9 EMPTY=-1 NO_SUCH_THREAD=-1 NO_SUCH_OBJECT=-2 WRONG_TYPE=-3 BAD_VALUE=-4
        THREAD_CRASHED=-5 THREAD_BUSY=-6 THREAD_IDLE=-7 FULL=-8 NO_SUCH_OPERATION=-9 NONE=-10
        NOTHING_TO_UNDO=-11 DUPLICATE=-12 NO_SNAPSHOT=-13
        """;
    private static final String FORBIDDEN = "\\b(throw|throws|try|catch|finally|synchronized|assert|import|package|"
        + "protected|hashCode|toString|Random|Thread|System\\.(?!arraycopy)\\w+|var|Object|HashMap)\\b|->|::";
    private static final int DEAREST_CALLS = 30;

    private static int wrong = 0;

    public static void main(String[] arguments) throws IOException, IllegalAccessException {
        Class<?> program = LinearizabilityChecker.class;
        same("the class", Modifier.toString(program.getModifiers()), "public final");
        same("the methods", publicMethods(program), new TreeSet<>(FACE.lines().toList()));
        same("the constants", constants(program), new TreeSet<>(List.of(CONSTANTS.trim().split("\\s+"))));
        Constructor<?>[] constructors = program.getDeclaredConstructors();
        same("one constructor", constructors.length, 1);
        same("its modifiers", Modifier.toString(constructors[0].getModifiers()), "public");
        same("its parameters", constructors[0].getParameterCount(), 0);
        nothingElseIsSeen(program);
        for (Class<?> inside : program.getDeclaredClasses()) {
            same(inside + " is static", Modifier.isStatic(inside.getModifiers()), true);
            same(inside + " is not public", Modifier.isPublic(inside.getModifiers()), false);
        }
        if (arguments.length == 1) {
            words(Files.readString(Path.of(arguments[0])));
        }
        dearCalls();
        System.out.println(wrong == 0 ? "the face and the language are kept" : wrong + " rules are broken");
        if (wrong != 0) {
            System.exit(1);
        }
    }

    private static void same(String what, Object got, Object want) {
        if (!got.equals(want)) {
            wrong++;
            System.out.println(what + ": found " + got + ", due is " + want);
        }
    }

    private static Set<String> publicMethods(Class<?> program) {
        Set<String> found = new TreeSet<>();
        for (Method method : program.getDeclaredMethods()) {
            if (Modifier.isPublic(method.getModifiers())) {
                String parameters = Arrays.stream(method.getParameterTypes()).map(Class::getName)
                    .collect(Collectors.joining(","));
                found.add(method.getReturnType() + " " + method.getName() + "(" + parameters + ")");
            }
        }
        return found;
    }

    private static Set<String> constants(Class<?> program) throws IllegalAccessException {
        Set<String> found = new TreeSet<>();
        for (Field field : program.getDeclaredFields()) {
            if (Modifier.isPublic(field.getModifiers())) {
                same(field.getName() + "'s modifiers", Modifier.toString(field.getModifiers()), "public static final");
                found.add(field.getName() + "=" + field.getInt(null));
            }
        }
        return found;
    }

    private static void nothingElseIsSeen(Class<?> program) {
        Set<String> names = new TreeSet<>();
        for (Method method : program.getDeclaredMethods()) {
            boolean shown = Modifier.isPublic(method.getModifiers());
            same(method + " is public or private", shown || Modifier.isPrivate(method.getModifiers()), true);
            same(method + " has a name of its own", names.add(method.getName()), true);
        }
        for (Field field : program.getDeclaredFields()) {
            boolean shown = Modifier.isPublic(field.getModifiers());
            same(field + " is public or private", shown || Modifier.isPrivate(field.getModifiers()), true);
            same(field + " is final where static",
                Modifier.isFinal(field.getModifiers()) || !Modifier.isStatic(field.getModifiers()), true);
        }
        for (Class<?> inside : program.getDeclaredClasses()) {
            for (Method method : inside.getDeclaredMethods()) {
                boolean taken = publicMethods(program).stream().anyMatch(f -> f.contains(" " + method.getName() + "("));
                same(method + " bears no name of the face", taken, false);
            }
        }
    }

    private static void words(String source) {
        String bare = source.replaceAll("(?s)/\\*.*?\\*/", "").replaceAll("//[^\n]*", "")
            .replaceAll("\"[^\"\n]*\"", "\"\"");
        Matcher matcher = Pattern.compile(FORBIDDEN).matcher(bare);
        while (matcher.find()) {
            same("a word of the program", matcher.group(), "none of those that the language rules out");
        }
        same("signs from 1 to 127 alone", source.chars().allMatch(sign -> sign >= 1 && sign <= 127), true);
    }

    /** The widest history, asked again and again: every call comes to its end. */
    private static void dearCalls() {
        LinearizabilityChecker x = new LinearizabilityChecker();
        x.createRegister(0);
        for (int operation = 0; operation < 10; operation++) {
            int thread = operation % 4;
            if (operation >= 4) {
                x.respond(thread, 0);
            }
            x.invokeWrite(thread, 0, operation);
        }
        for (int call = 0; call < DEAREST_CALLS; call++) {
            same("countLinearizations", x.countLinearizations(), 21978);
            same("countResponses", x.countResponses(0), 1);
            same("firstViolation", x.firstViolation(), -10);
            same("isSequentiallyConsistent", x.isSequentiallyConsistent(), 1);
        }
    }
}
