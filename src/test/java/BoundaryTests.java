import java.io.IOException;
import java.lang.reflect.InvocationTargetException;
import java.lang.reflect.Method;
import java.nio.file.Files;
import java.nio.file.Path;
import java.util.ArrayList;
import java.util.HashMap;
import java.util.HashSet;
import java.util.LinkedHashMap;
import java.util.List;
import java.util.Map;
import java.util.Set;

/**
 * Plays the runs of src/test/boundaries.txt, which hold each sentence of the document to its word. Beside
 * the answers that stand there, it looks at what no answer shows alone: after a refused call and after
 * the whole run, the checker answers like one that never got the refused calls and the questions. And it
 * fails if a sentence of the document is quoted nowhere.
 */
public final class BoundaryTests {
    private static final Path RUNS = Path.of("src/test/boundaries.txt");
    private static final Path DOCUMENT = Path.of("../shared/DOC.md");
    /** The document promises nothing about the calls behind these. */
    private static final int MOST_CALLS = 512;
    private static final int MOST_REPORTS = 40;
    private static final Map<String, Method> METHODS = new HashMap<>();
    private static final Set<String> CHANGING = Set.of("createRegister", "createCounter", "createQueue",
        "createSet", "reset", "invokeRead", "invokeWrite", "invokeCompareAndSet", "invokeGet", "invokeAdd",
        "invokeEnqueue", "invokeDequeue", "invokeInsert", "invokeRemove", "invokeContains", "respond", "crash",
        "undo", "appendToOrder", "removeFromOrder", "appendCharacter", "clearText", "parseText",
        "saveSnapshot", "restoreSnapshot");

    private static int wrong = 0;
    private static int compared = 0;

    public static void main(String[] arguments) throws IOException {
        for (Method method : LinearizabilityChecker.class.getDeclaredMethods()) {
            METHODS.put(method.getName(), method);
        }
        Map<String, List<String>> document = sentences(Files.readString(DOCUMENT));
        List<Run> runs = new Reader(document).read(Files.readAllLines(RUNS));
        for (Run run : runs) {
            hold(run);
        }
        System.out.println(runs.size() + " runs, " + compared + " refused calls that left the state unchanged, "
            + wrong + " faults");
        if (wrong != 0) {
            System.exit(1);
        }
    }

    private static void report(String fault) {
        wrong++;
        if (wrong <= MOST_REPORTS) {
            System.out.println(fault);
        }
    }

    // The document's sentences

    /** The sentences of the description and of the promises, under their headings. */
    private static Map<String, List<String>> sentences(String document) {
        Map<String, List<String>> found = new LinkedHashMap<>();
        for (String section : document.split("(?m)^## ")) {
            String heading = section.substring(0, section.indexOf('\n')).trim();
            if (heading.equals("Description") || heading.startsWith("Promise ")) {
                String text = section.substring(section.indexOf('\n')).split("(?m)^Examples: ")[0];
                found.put(heading, sentencesOf(text));
            }
        }
        return found;
    }

    private static List<String> sentencesOf(String text) {
        List<String> found = new ArrayList<>();
        for (String paragraph : text.split("\\n\\s*\\n|\\n(?=- `)")) {
            String line = paragraph.trim().replaceAll("\\s+", " ");
            if (line.startsWith("- `")) {
                found.add(line);
            } else if (!line.isEmpty() && !line.startsWith("`")) {
                for (String sentence : line.split("(?<=\\.) |; ")) {
                    found.add(sentence.replaceAll("\\.$", ""));
                }
            }
        }
        return found;
    }

    // The runs

    private record Step(String method, List<Integer> arguments, Integer due) {
        /** Without an answer that is due, the call must at least not be refused. */
        boolean agrees(int answer) {
            return due == null ? answer >= 0 : answer == due;
        }

        boolean isRefused() {
            return due != null && due < 0 && !method.equals("parseText");
        }

        boolean changes() {
            return CHANGING.contains(method) && !isRefused();
        }

        @Override
        public String toString() {
            String list = arguments.toString();
            return method + "(" + list.substring(1, list.length() - 1) + ")";
        }
    }

    private record Run(int line, String sentence, List<Step> steps) {
    }

    /** Reads the runs; README.md tells their form. */
    private static final class Reader {
        final Map<String, List<String>> document;
        final Map<String, List<String>> blocks = new HashMap<>();
        final List<Run> runs = new ArrayList<>();
        final Set<String> quoted = new HashSet<>();
        List<String> block;
        String heading = "";
        boolean quoting;

        Reader(Map<String, List<String>> document) {
            this.document = document;
        }

        List<Run> read(List<String> lines) {
            for (int number = 1; number <= lines.size(); number++) {
                line(number, lines.get(number - 1).trim());
            }
            for (Map.Entry<String, List<String>> section : document.entrySet()) {
                for (String sentence : section.getValue()) {
                    if (!quoted.contains(section.getKey() + ": " + sentence)) {
                        report("no quote of \"" + sentence + "\" of " + section.getKey());
                    }
                }
            }
            return runs;
        }

        private void line(int number, String line) {
            if (line.startsWith("#")) {
                return;
            }
            if (line.startsWith("let ")) {
                block = new ArrayList<>();
                blocks.put(line.substring(4), block);
            } else if (line.isEmpty()) {
                block = null;
            } else if (line.startsWith("== ")) {
                heading = line.substring(3);
            } else if (line.startsWith("> ") || line.startsWith("~ ")) {
                quote(number, line.substring(2));
                quoting = line.startsWith("> ");
            } else if (block != null) {
                block.add(line);
            } else {
                steps(number, line);
                quoting = false;
            }
        }

        /** Quotes that stand below one another name the sentences of one run. */
        private void quote(int number, String sentence) {
            if (!document.getOrDefault(heading, List.of()).contains(sentence)) {
                report("line " + number + ": the document has no \"" + sentence + "\" under " + heading);
            }
            quoted.add(heading + ": " + sentence);
            if (!quoting) {
                runs.add(new Run(number, sentence, new ArrayList<>()));
            }
        }

        private void steps(int number, String line) {
            if (runs.isEmpty()) {
                report("line " + number + ": no sentence stands before this call");
            } else if (line.startsWith("use ")) {
                for (String inner : blocks.getOrDefault(line.substring(4), List.of("unknown()"))) {
                    steps(number, inner);
                }
            } else if (line.startsWith("repeat ")) {
                String[] parts = line.substring(7).split(": ", 2);
                for (int time = 0; time < Integer.parseInt(parts[0]); time++) {
                    steps(number, parts[1]);
                }
            } else {
                for (String call : line.split(";(?=([^\"]*\"[^\"]*\")*[^\"]*$)")) {
                    step(number, call.trim());
                }
            }
        }

        private void step(int number, String call) {
            List<Step> steps = runs.get(runs.size() - 1).steps;
            int equals = call.lastIndexOf(" = ");
            Integer due = equals < 0 ? null : (Integer) number(call.substring(equals + 3));
            String text = equals < 0 ? call : call.substring(0, equals);
            if (text.startsWith("type ") || text.startsWith("parse ")) {
                String characters = text.substring(text.indexOf('"') + 1, text.lastIndexOf('"'));
                for (int index = 0; index < characters.length(); index++) {
                    boolean last = text.startsWith("type ") && index == characters.length() - 1;
                    steps.add(new Step("appendCharacter", List.of((int) characters.charAt(index)), last ? due : null));
                }
                if (text.startsWith("parse ")) {
                    steps.add(new Step("parseText", List.of(), due));
                }
                return;
            }
            String list = text.substring(text.indexOf('(') + 1, text.indexOf(')'));
            List<Integer> arguments = new ArrayList<>();
            for (String argument : list.isEmpty() ? new String[0] : list.split(", ")) {
                arguments.add(number(argument));
            }
            String method = text.substring(0, text.indexOf('('));
            if (!METHODS.containsKey(method) || METHODS.get(method).getParameterCount() != arguments.size()) {
                report("line " + number + ": no method for " + text);
            } else {
                steps.add(new Step(method, arguments, due));
            }
        }

        private static int number(String word) {
            return switch (word) {
                case "MIN" -> Integer.MIN_VALUE;
                case "MAX" -> Integer.MAX_VALUE;
                case "REGISTER", "READ" -> 0;
                case "COUNTER", "WRITE" -> 1;
                case "QUEUE", "COMPARE_AND_SET" -> 2;
                case "SET", "GET" -> 3;
                case "ADD" -> 4;
                case "ENQUEUE" -> 5;
                case "DEQUEUE" -> 6;
                case "INSERT" -> 7;
                case "REMOVE" -> 8;
                case "CONTAINS" -> 9;
                case "EMPTY", "NO_SUCH_THREAD" -> -1;
                case "NO_SUCH_OBJECT" -> -2;
                case "WRONG_TYPE" -> -3;
                case "BAD_VALUE" -> -4;
                case "THREAD_CRASHED" -> -5;
                case "THREAD_BUSY" -> -6;
                case "THREAD_IDLE" -> -7;
                case "FULL" -> -8;
                case "NO_SUCH_OPERATION" -> -9;
                case "NONE" -> -10;
                case "NOTHING_TO_UNDO" -> -11;
                case "DUPLICATE" -> -12;
                case "NO_SNAPSHOT" -> -13;
                default -> Integer.parseInt(word);
            };
        }
    }

    // What a run must show

    private static void hold(Run run) {
        Player player = new Player();
        for (Step step : run.steps) {
            int answer = player.play(step);
            if (!step.agrees(answer)) {
                report("line " + run.line + " (" + run.sentence + "): call " + player.calls + ", " + step
                    + " answered " + answer + ", due is " + (step.due == null ? "no error code" : step.due));
            }
        }
        if (player.calls > MOST_CALLS) {
            report("line " + run.line + ": more than " + MOST_CALLS + " calls");
        }
        for (int index = 0; index < run.steps.size(); index++) {
            if (run.steps.get(index).isRefused()) {
                compared++;
                sameWithout(run, index + 1, "the refused " + run.steps.get(index));
            }
        }
        sameWithout(run, run.steps.size(), "the questions and the refused calls");
        sameWithCommands(run);
    }

    /** Compares the first steps of a run with those of them alone that change the state. */
    private static void sameWithout(Run run, int length, String what) {
        Player whole = new Player();
        Player bare = new Player();
        for (Step step : run.steps.subList(0, length)) {
            whole.play(step);
            if (step.changes()) {
                bare.play(step);
            }
        }
        same(run, whole, bare, what);
    }

    /** Compares a run with the one that calls the methods which its texts name. */
    private static void sameWithCommands(Run run) {
        Player whole = new Player();
        Player called = new Player();
        StringBuilder text = new StringBuilder();
        boolean parses = false;
        for (Step step : run.steps) {
            int answer = whole.play(step);
            if (step.method.equals("parseText")) {
                parses = true;
                called.play(new Step("clearText", List.of(), null));
                if (answer > -1000 || answer <= -2000) {
                    callCommands(called, text.toString());
                }
            } else if (step.changes()) {
                called.play(step);
            }
            if (step.method.equals("appendCharacter") && !step.isRefused()) {
                text.append((char) (int) step.arguments.get(0));
            } else if (step.method.equals("clearText") || step.method.equals("parseText")) {
                text.setLength(0);
            }
        }
        if (parses) {
            same(run, whole, called, "the texts, and with the calls of their commands");
        }
    }

    private static void callCommands(Player player, String text) {
        for (String command : text.split(";")) {
            int thread = command.charAt(0) - '0';
            Step step;
            if (command.charAt(1) == '!') {
                step = new Step("crash", List.of(thread), null);
            } else if (command.charAt(1) == '=') {
                step = new Step("respond", List.of(thread, Integer.parseInt(command.substring(2))), null);
            } else {
                String[] parts = command.substring(4).split("[(),]");
                List<Integer> arguments = new ArrayList<>(List.of(thread, command.charAt(2) - '0'));
                for (int index = 1; index < parts.length; index++) {
                    arguments.add(Integer.parseInt(parts[index]));
                }
                String name = Character.toUpperCase(parts[0].charAt(0)) + parts[0].substring(1);
                step = new Step("invoke" + name, arguments, null);
            }
            if (player.play(step) < 0) {
                return;
            }
        }
    }

    private static void same(Run run, Player left, Player right, String what) {
        List<String> seen = left.picture();
        List<String> want = right.picture();
        if (left.calls > MOST_CALLS || right.calls > MOST_CALLS) {
            report("line " + run.line + ": more than " + MOST_CALLS + " calls with the picture");
        }
        for (int index = 0; index < seen.size() || index < want.size(); index++) {
            String got = index < seen.size() ? seen.get(index) : "nothing";
            String due = index < want.size() ? want.get(index) : "nothing";
            if (!got.equals(due)) {
                report("line " + run.line + " (" + run.sentence + "): with " + what + " " + got + ", without " + due);
                return;
            }
        }
    }

    /** One checker and the number of its calls. */
    private static final class Player {
        final LinearizabilityChecker checker = new LinearizabilityChecker();
        int calls = 0;
        List<String> seen;

        int play(Step step) {
            calls++;
            try {
                return (Integer) METHODS.get(step.method).invoke(checker, step.arguments.toArray());
            } catch (IllegalAccessException | InvocationTargetException fault) {
                report(step + " failed: " + fault.getCause());
                return Integer.MIN_VALUE;
            }
        }

        int ask(String method, Integer... arguments) {
            Step step = new Step(method, List.of(arguments), null);
            int answer = play(step);
            seen.add(step + " = " + answer);
            return answer;
        }

        /** All that later calls show of the state; it is not the same afterwards. */
        List<String> picture() {
            seen = new ArrayList<>();
            state();
            ask("parseText");
            ask("eventCount");
            ask("orderSize");
            while (ask("undo") > 0) {
                ask("operationCount");
            }
            ask("objectCount");
            if (ask("restoreSnapshot") >= 0) {
                records();
                ask("countLinearizations");
            }
            return seen;
        }

        private void state() {
            records();
            int operations = ask("operationCount");
            for (int first = 0; first < operations; first++) {
                for (int second = first + 1; second < operations; second++) {
                    ask("precedes", first, second);
                }
            }
            for (String question : List.of("maxPending", "longestChain", "isLinearizable", "isSequentiallyConsistent",
                    "countLinearizations", "firstViolation", "isOrderLinearization", "firstBadPosition")) {
                ask(question);
            }
            for (int object = 0; object < 4; object++) {
                ask("isObjectLinearizable", object);
            }
            int length = ask("firstLinearizationLength");
            for (int position = 0; position <= length; position++) {
                ask("firstLinearizationAt", position);
            }
            for (int thread = 0; thread < 4; thread++) {
                ask("countResponses", thread);
                for (int result : new int[] {-1, 0, 1, 5}) {
                    ask("canRespond", thread, result);
                }
            }
        }

        private void records() {
            int objects = ask("objectCount");
            for (int object = 0; object <= objects; object++) {
                ask("typeOf", object);
            }
            ask("eventCount");
            int operations = ask("operationCount");
            for (int operation = 0; operation < operations; operation++) {
                for (String question : List.of("kindOf", "threadOf", "objectOf", "invocationTime", "responseTime",
                        "resultOf")) {
                    ask(question, operation);
                }
            }
            int size = ask("orderSize");
            for (int position = 0; position <= size; position++) {
                ask("orderAt", position);
            }
        }
    }
}
