import java.util.ArrayDeque;
import java.util.ArrayList;
import java.util.Arrays;
import java.util.Deque;
import java.util.HashSet;
import java.util.List;
import java.util.Random;
import java.util.Set;
import java.util.regex.Matcher;
import java.util.regex.Pattern;

/**
 * Compares long runs of calls with a slow model that follows the words of the document: it keeps the
 * bare list of events and executes every sequence from its beginning.
 */
public final class ReferenceTests {
    private static final int RUNS = 2500;
    /** The document promises nothing about the calls behind these. */
    private static final int CALLS = 512;
    private static int wrong = 0;

    public static void main(String[] arguments) {
        for (int run = 0; run < RUNS && wrong < 20; run++) {
            new Run(run).play();
        }
        System.out.println(wrong == 0 ? "program and model agree" : wrong + " answers differ from the model's");
        if (wrong != 0) {
            System.exit(1);
        }
    }

    private record Event(char form, int thread, int kind, int object, int first, int second) {
    }

    private record Shared(int type, int initial) {
    }

    private record Snapshot(List<Shared> objects, List<Event> events, List<Integer> order) {
    }

    private static final class Operation {
        int number;
        Event invocation;
        int invokedAt;
        int respondedAt = -1;
        int result;

        boolean completed() {
            return respondedAt >= 0;
        }

        boolean precedes(Operation other) {
            return completed() && respondedAt < other.invokedAt;
        }

        boolean sameThreadBefore(Operation other) {
            return invocation.thread == other.invocation.thread && invokedAt < other.invokedAt;
        }
    }

    private static final class Model {
        static final String[] NAMES = {"read", "write", "compareAndSet", "get", "add", "enqueue", "dequeue",
            "insert", "remove", "contains"};
        static final int[] ARGUMENTS = {0, 1, 2, 0, 1, 1, 0, 1, 1, 1};
        static final int[] TYPES = {0, 0, 0, 1, 1, 2, 2, 3, 3, 3};
        static final int[] LOWEST = {0, 0, 0, -999, -999, 0, -1, 0, 0, 0};
        static final int[] HIGHEST = {99, 0, 1, 999, 999, 0, 99, 1, 1, 1};
        static final String NUMBER = "-?[0-9]{1,3}";
        static final String COMMAND = "[0-9](!|=" + NUMBER + "|\\.[0-9]\\.((read|get|dequeue)\\(\\)"
            + "|(write|add|enqueue|insert|remove|contains)\\(" + NUMBER + "\\)"
            + "|compareAndSet\\(" + NUMBER + "," + NUMBER + "\\)))";
        static final Pattern TEXT = Pattern.compile(COMMAND + "(;" + COMMAND + ")*");

        List<Shared> objects = new ArrayList<>();
        List<Event> events = new ArrayList<>();
        List<Integer> order = new ArrayList<>();
        StringBuilder text = new StringBuilder();
        Snapshot snapshot;

        static List<Operation> operations(List<Event> events) {
            List<Operation> operations = new ArrayList<>();
            for (int time = 0; time < events.size(); time++) {
                Event event = events.get(time);
                if (event.form == 'i') {
                    Operation operation = new Operation();
                    operation.number = operations.size();
                    operation.invocation = event;
                    operation.invokedAt = time;
                    operations.add(operation);
                } else if (event.form == 'r') {
                    Operation operation = pending(operations, event.thread);
                    operation.respondedAt = time;
                    operation.result = event.first;
                }
            }
            return operations;
        }

        static Operation pending(List<Operation> operations, int thread) {
            for (Operation operation : operations) {
                if (operation.invocation.thread == thread && !operation.completed()) {
                    return operation;
                }
            }
            return null;
        }

        List<Operation> operations() {
            return operations(events);
        }

        boolean crashed(int thread) {
            return events.stream().anyMatch(event -> event.form == 'c' && event.thread == thread);
        }

        int create(int type, int initial, int lowest, int highest) {
            if (initial < lowest || initial > highest) {
                return -4;
            }
            if (objects.size() == 4) {
                return -8;
            }
            objects.add(new Shared(type, initial));
            order.clear();
            return objects.size() - 1;
        }

        int reset() {
            int removed = events.size();
            objects.clear();
            events.clear();
            order.clear();
            return removed;
        }

        int invoke(int kind, int thread, int object, int first, int second) {
            int lowest = kind == 4 ? -99 : 0;
            boolean bad = ARGUMENTS[kind] >= 1 && (first < lowest || first > 99)
                || ARGUMENTS[kind] == 2 && (second < 0 || second > 99);
            if (thread < 0 || thread > 3) {
                return -1;
            } else if (object < 0 || object >= objects.size()) {
                return -2;
            } else if (objects.get(object).type != TYPES[kind]) {
                return -3;
            } else if (bad) {
                return -4;
            } else if (crashed(thread)) {
                return -5;
            } else if (pending(operations(), thread) != null) {
                return -6;
            } else if (operations().size() == 10) {
                return -8;
            }
            events.add(new Event('i', thread, kind, object, first, second));
            order.clear();
            return operations().size() - 1;
        }

        int waiting(int thread) {
            if (thread < 0 || thread > 3) {
                return -1;
            } else if (crashed(thread)) {
                return -5;
            }
            return pending(operations(), thread) == null ? -7 : 0;
        }

        int responseError(int thread, int result) {
            int error = waiting(thread);
            if (error != 0) {
                return error;
            }
            int kind = pending(operations(), thread).invocation.kind;
            return result < LOWEST[kind] || result > HIGHEST[kind] ? -4 : 0;
        }

        int respond(int thread, int result) {
            int error = responseError(thread, result);
            if (error != 0) {
                return error;
            }
            int number = pending(operations(), thread).number;
            events.add(new Event('r', thread, 0, 0, result, 0));
            order.clear();
            return number;
        }

        int crash(int thread) {
            if (thread < 0 || thread > 3) {
                return -1;
            } else if (crashed(thread)) {
                return -5;
            }
            events.add(new Event('c', thread, 0, 0, 0, 0));
            order.clear();
            return events.size() - 1;
        }

        int undo() {
            if (events.isEmpty()) {
                return -11;
            }
            events.remove(events.size() - 1);
            order.clear();
            return events.size();
        }

        int data(String what, int number) {
            List<Operation> operations = operations();
            if (number < 0 || number >= operations.size()) {
                return -9;
            }
            Operation operation = operations.get(number);
            return switch (what) {
                case "kindOf" -> operation.invocation.kind;
                case "threadOf" -> operation.invocation.thread;
                case "objectOf" -> operation.invocation.object;
                case "invocationTime" -> operation.invokedAt;
                case "responseTime" -> operation.completed() ? operation.respondedAt : -10;
                default -> operation.completed() ? operation.result + 1000 : -10;
            };
        }

        int precedes(int first, int second) {
            List<Operation> operations = operations();
            if (first < 0 || second < 0 || first >= operations.size() || second >= operations.size()) {
                return -9;
            }
            return operations.get(first).precedes(operations.get(second)) ? 1 : 0;
        }

        int maxPending() {
            int most = 0;
            for (int length = 0; length <= events.size(); length++) {
                long pending = operations(events.subList(0, length)).stream().filter(o -> !o.completed()).count();
                most = Math.max(most, (int) pending);
            }
            return most;
        }

        int longestChain() {
            return chainFrom(null, operations());
        }

        int chainFrom(Operation last, List<Operation> operations) {
            int longest = 0;
            for (Operation next : operations) {
                if (last == null || last.precedes(next)) {
                    longest = Math.max(longest, 1 + chainFrom(next, operations));
                }
            }
            return longest;
        }

        /** Executes the sequence from the initial states and returns what its operations return. */
        List<Integer> execute(List<Operation> sequence) {
            int[] values = new int[objects.size()];
            List<Deque<Integer>> queues = new ArrayList<>();
            List<Set<Integer>> sets = new ArrayList<>();
            for (int object = 0; object < values.length; object++) {
                values[object] = objects.get(object).initial;
                queues.add(new ArrayDeque<>());
                sets.add(new HashSet<>());
            }
            List<Integer> results = new ArrayList<>();
            for (Operation operation : sequence) {
                Event call = operation.invocation;
                int value = values[call.object];
                Deque<Integer> queue = queues.get(call.object);
                Set<Integer> set = sets.get(call.object);
                int result = 0;
                switch (NAMES[call.kind]) {
                    case "read", "get" -> result = value;
                    case "write" -> values[call.object] = call.first;
                    case "compareAndSet" -> {
                        result = value == call.first ? 1 : 0;
                        values[call.object] = value == call.first ? call.second : value;
                    }
                    case "add" -> {
                        result = value;
                        values[call.object] = value + call.first;
                    }
                    case "enqueue" -> queue.addLast(call.first);
                    case "dequeue" -> result = queue.isEmpty() ? -1 : queue.removeFirst();
                    case "insert" -> result = set.add(call.first) ? 1 : 0;
                    case "remove" -> result = set.remove(call.first) ? 1 : 0;
                    default -> result = set.contains(call.first) ? 1 : 0;
                }
                results.add(result);
            }
            return results;
        }

        /** Whether the sequence keeps the second and the third rule. */
        boolean keepsOrderAndResults(List<Operation> sequence, List<Operation> operations, boolean realTime) {
            for (int position = 0; position < sequence.size(); position++) {
                for (Operation other : operations) {
                    Operation here = sequence.get(position);
                    boolean before = realTime ? other.precedes(here) : other.sameThreadBefore(here);
                    if (before && !sequence.subList(0, position).contains(other)) {
                        return false;
                    }
                }
            }
            List<Integer> results = execute(sequence);
            for (int position = 0; position < sequence.size(); position++) {
                Operation here = sequence.get(position);
                if (here.completed() && here.result != results.get(position)) {
                    return false;
                }
            }
            return true;
        }

        /** All linearizations of the operations in their order, at most limit of them. */
        List<List<Operation>> linearizations(List<Operation> operations, boolean realTime, int limit) {
            List<List<Operation>> all = new ArrayList<>();
            collect(new ArrayList<>(), operations, realTime, limit, all);
            return all;
        }

        void collect(List<Operation> begun, List<Operation> operations, boolean realTime, int limit,
                List<List<Operation>> all) {
            if (all.size() >= limit || !keepsOrderAndResults(begun, operations, realTime)) {
                return;
            }
            if (operations.stream().allMatch(o -> !o.completed() || begun.contains(o))) {
                all.add(List.copyOf(begun));
            }
            for (Operation next : operations) {
                if (!begun.contains(next)) {
                    begun.add(next);
                    collect(begun, operations, realTime, limit, all);
                    begun.remove(begun.size() - 1);
                }
            }
        }

        boolean linearizable(List<Event> history) {
            return !linearizations(operations(history), true, 1).isEmpty();
        }

        int isObjectLinearizable(int object) {
            if (object < 0 || object >= objects.size()) {
                return -2;
            }
            List<Operation> own = operations();
            own.removeIf(operation -> operation.invocation.object != object);
            return linearizations(own, true, 1).isEmpty() ? 0 : 1;
        }

        int firstViolation() {
            for (int length = 0; length <= events.size(); length++) {
                if (!linearizable(events.subList(0, length))) {
                    return length;
                }
            }
            return -10;
        }

        int canRespond(int thread, int result) {
            int error = responseError(thread, result);
            if (error != 0) {
                return error;
            }
            List<Event> longer = new ArrayList<>(events);
            longer.add(new Event('r', thread, 0, 0, result, 0));
            return linearizable(longer) ? 1 : 0;
        }

        int countResponses(int thread) {
            int error = waiting(thread);
            if (error != 0) {
                return error;
            }
            int kind = pending(operations(), thread).invocation.kind;
            int count = 0;
            for (int result = LOWEST[kind]; result <= HIGHEST[kind]; result++) {
                count += canRespond(thread, result);
            }
            return count;
        }

        int appendToOrder(int number) {
            if (number < 0 || number >= operations().size()) {
                return -9;
            } else if (order.contains(number)) {
                return -12;
            }
            order.add(number);
            return order.size();
        }

        int removeFromOrder(int number) {
            if (number < 0 || number >= operations().size()) {
                return -9;
            }
            int position = order.indexOf(number);
            order.remove((Integer) number);
            return position < 0 ? -10 : position;
        }

        int isOrderLinearization() {
            List<Operation> operations = operations();
            List<Operation> sequence = order.stream().map(operations::get).toList();
            boolean complete = operations.stream().allMatch(o -> !o.completed() || sequence.contains(o));
            return complete && keepsOrderAndResults(sequence, operations, true) ? 1 : 0;
        }

        int firstBadPosition() {
            List<Operation> operations = operations();
            List<Operation> sequence = order.stream().map(operations::get).toList();
            List<Integer> results = execute(sequence);
            for (int position = 0; position < sequence.size(); position++) {
                Operation here = sequence.get(position);
                List<Operation> earlier = sequence.subList(0, position);
                boolean late = operations.stream().anyMatch(o -> o.precedes(here) && !earlier.contains(o));
                if (late || here.completed() && here.result != results.get(position)) {
                    return position;
                }
            }
            return -10;
        }

        int appendCharacter(int character) {
            if (character < 32 || character > 126) {
                return -4;
            } else if (text.length() == 120) {
                return -8;
            }
            text.append((char) character);
            return text.length();
        }

        int clearText() {
            int length = text.length();
            text.setLength(0);
            return length;
        }

        /** Whether some valid text starts with the given one. */
        static boolean canBeginText(String start) {
            Matcher matcher = TEXT.matcher(start);
            return matcher.matches() || matcher.hitEnd();
        }

        int parseText() {
            String whole = text.toString();
            text.setLength(0);
            if (!TEXT.matcher(whole).matches()) {
                int position = 0;
                while (position < whole.length() && canBeginText(whole.substring(0, position + 1))) {
                    position++;
                }
                return -1000 - position;
            }
            String[] commands = whole.split(";");
            for (int number = 0; number < commands.length; number++) {
                if (run(commands[number]) < 0) {
                    return -2000 - number;
                }
            }
            return commands.length;
        }

        int run(String command) {
            int thread = command.charAt(0) - '0';
            if (command.charAt(1) == '!') {
                return crash(thread);
            } else if (command.charAt(1) == '=') {
                return respond(thread, Integer.parseInt(command.substring(2)));
            }
            String[] parts = command.substring(4).split("[(),]");
            int kind = Arrays.asList(NAMES).indexOf(parts[0]);
            int first = parts.length > 1 ? Integer.parseInt(parts[1]) : 0;
            int second = parts.length > 2 ? Integer.parseInt(parts[2]) : 0;
            return invoke(kind, thread, command.charAt(2) - '0', first, second);
        }

        int saveSnapshot() {
            snapshot = new Snapshot(List.copyOf(objects), List.copyOf(events), List.copyOf(order));
            return events.size();
        }

        int restoreSnapshot() {
            if (snapshot == null) {
                return -13;
            }
            objects = new ArrayList<>(snapshot.objects);
            events = new ArrayList<>(snapshot.events);
            order = new ArrayList<>(snapshot.order);
            return events.size();
        }
    }

    /** One run of calls on a new object; the run's number decides all that is chosen. */
    private static final class Run {
        final int number;
        final Random random;
        final LinearizabilityChecker program = new LinearizabilityChecker();
        final Model model = new Model();
        final List<String> calls = new ArrayList<>();
        /** Small values meet often, so that many results are right. */
        final int values;
        /** The model tries so many sequences that long histories are left to few runs. */
        final int operations;

        Run(int number) {
            this.number = number;
            this.random = new Random(number);
            this.values = 1 + random.nextInt(4);
            this.operations = number % 25 == 0 ? 10 : 3 + random.nextInt(4);
        }

        void due(String call, int got, int want) {
            calls.add(call + " = " + want);
            if (got != want && calls.size() <= CALLS && wrong < 20) {
                wrong++;
                System.out.println("run " + number + ": " + calls + ": answered " + got);
            }
        }

        void play() {
            if (chance(90)) {
                createSome();
            }
            while (calls.size() < CALLS - 100 && wrong < 20) {
                change();
                if (chance(15)) {
                    question();
                }
            }
            tenOperations();
        }

        /** Mostly of one type, so that the operations of an object are many. */
        void createSome() {
            int favourite = random.nextInt(4);
            for (int object = 0; object < 1 + random.nextInt(4); object++) {
                create(chance(60) ? favourite : random.nextInt(4));
            }
        }

        boolean chance(int percent) {
            return random.nextInt(100) < percent;
        }

        /** A number from lowest to highest, seldom one beside it. */
        int pick(int lowest, int highest) {
            if (chance(4)) {
                int[] odd = {lowest - 1, highest + 1, Integer.MIN_VALUE, Integer.MAX_VALUE};
                return odd[random.nextInt(odd.length)];
            }
            return lowest + random.nextInt(Math.max(1, highest - lowest + 1));
        }

        int value() {
            return chance(95) ? random.nextInt(values) : chance(50) ? 99 : pick(0, 99);
        }

        void create(int type) {
            if (type == 0) {
                int initial = value();
                due("createRegister(" + initial + ")", program.createRegister(initial), model.create(0, initial, 0, 99));
            } else if (type == 1) {
                int initial = chance(50) ? -value() : value();
                due("createCounter(" + initial + ")", program.createCounter(initial),
                    model.create(1, initial, -99, 99));
            } else if (type == 2) {
                due("createQueue()", program.createQueue(), model.create(2, 0, 0, 0));
            } else {
                due("createSet()", program.createSet(), model.create(3, 0, 0, 0));
            }
        }

        void change() {
            int choice = random.nextInt(100);
            if (choice < 34) {
                if (model.operations().size() < operations || chance(10) && operations == 10) {
                    invoke();
                } else {
                    undo();
                }
            } else if (choice < 62) {
                respond();
            } else if (choice < 66) {
                int thread = pick(0, 3);
                if (chance(40)) {
                    due("crash(" + thread + ")", program.crash(thread), model.crash(thread));
                }
            } else if (choice < 72) {
                undo();
            } else if (choice < 86) {
                order();
            } else if (choice < 94) {
                text();
            } else if (choice < 96) {
                due("saveSnapshot()", program.saveSnapshot(), model.saveSnapshot());
            } else if (choice < 97) {
                due("restoreSnapshot()", program.restoreSnapshot(), model.restoreSnapshot());
            } else if (choice < 99) {
                create(random.nextInt(4));
            } else if (chance(30)) {
                due("reset()", program.reset(), model.reset());
                createSome();
            }
        }

        void undo() {
            due("undo()", program.undo(), model.undo());
        }

        void invoke() {
            int thread = pick(0, 3);
            int object = pick(0, model.objects.size() - 1);
            int kind = random.nextInt(10);
            if (object >= 0 && object < model.objects.size() && chance(97)) {
                int type = model.objects.get(object).type;
                kind = type == 0 ? random.nextInt(3) : type == 1 ? 3 + random.nextInt(2)
                    : type == 2 ? 5 + random.nextInt(2) : 7 + random.nextInt(3);
            }
            int first = kind == 4 && chance(50) ? -value() : value();
            int second = value();
            due(Model.NAMES[kind] + "(" + thread + ", " + object + ", " + first + ", " + second + ")",
                callInvoke(kind, thread, object, first, second), model.invoke(kind, thread, object, first, second));
        }

        int callInvoke(int kind, int thread, int object, int first, int second) {
            return switch (kind) {
                case 0 -> program.invokeRead(thread, object);
                case 1 -> program.invokeWrite(thread, object, first);
                case 2 -> program.invokeCompareAndSet(thread, object, first, second);
                case 3 -> program.invokeGet(thread, object);
                case 4 -> program.invokeAdd(thread, object, first);
                case 5 -> program.invokeEnqueue(thread, object, first);
                case 6 -> program.invokeDequeue(thread, object);
                case 7 -> program.invokeInsert(thread, object, first);
                case 8 -> program.invokeRemove(thread, object, first);
                default -> program.invokeContains(thread, object, first);
            };
        }

        int plausibleResult() {
            return chance(5) ? pick(-999, 999) : chance(30) ? -1 - random.nextInt(3) : value();
        }

        void respond() {
            int thread = pick(0, 3);
            int result = plausibleResult();
            // Most responses are right, so that long histories stay linearizable.
            for (int tries = 0; tries < 12 && chance(85) && model.canRespond(thread, result) == 0; tries++) {
                result = plausibleResult();
            }
            due("respond(" + thread + ", " + result + ")", program.respond(thread, result),
                model.respond(thread, result));
        }

        void order() {
            int operation = pick(0, model.operations().size() - 1);
            if (chance(75)) {
                due("appendToOrder(" + operation + ")", program.appendToOrder(operation),
                    model.appendToOrder(operation));
            } else {
                due("removeFromOrder(" + operation + ")", program.removeFromOrder(operation),
                    model.removeFromOrder(operation));
            }
            if (chance(30)) {
                fillOrder();
            }
            due("firstBadPosition()", program.firstBadPosition(), model.firstBadPosition());
            due("isOrderLinearization()", program.isOrderLinearization(), model.isOrderLinearization());
            due("orderSize()", program.orderSize(), model.order.size());
            int position = pick(0, 9);
            due("orderAt(" + position + ")", program.orderAt(position),
                position >= 0 && position < model.order.size() ? model.order.get(position) : -10);
        }

        /** Fills the order buffer with a linearization, and seldom spoils it. */
        void fillOrder() {
            List<List<Operation>> some = model.linearizations(model.operations(), true, 5);
            if (some.isEmpty()) {
                return;
            }
            for (int operation = 0; operation < model.operations().size(); operation++) {
                program.removeFromOrder(operation);
                model.removeFromOrder(operation);
                calls.add("removeFromOrder(" + operation + ")");
            }
            for (Operation operation : some.get(random.nextInt(some.size()))) {
                if (chance(95)) {
                    due("appendToOrder(" + operation.number + ")", program.appendToOrder(operation.number),
                        model.appendToOrder(operation.number));
                }
            }
        }

        void text() {
            if (chance(5)) {
                due("clearText()", program.clearText(), model.clearText());
            }
            if (chance(10)) {
                int odd = pick(32, 126);
                due("appendCharacter(" + odd + ")", program.appendCharacter(odd), model.appendCharacter(odd));
            }
            StringBuilder line = new StringBuilder();
            int commands = chance(4) ? 40 : 1 + random.nextInt(2);
            for (int command = 0; command < commands; command++) {
                line.append(command == 0 ? "" : ";").append(command());
            }
            if (chance(50)) {
                spoil(line);
            }
            for (int index = 0; index < line.length(); index++) {
                char character = line.charAt(index);
                due("appendCharacter('" + character + "')", program.appendCharacter(character),
                    model.appendCharacter(character));
            }
            // What makes the history longer than the model can search is undone again.
            if (chance(90)) {
                due("parseText()", program.parseText(), model.parseText());
                while (model.operations().size() > operations) {
                    undo();
                }
            }
        }

        String command() {
            int thread = random.nextInt(chance(5) ? 10 : 4);
            int choice = random.nextInt(10);
            if (choice == 0) {
                return thread + "!";
            } else if (choice < 5) {
                return thread + "=" + number();
            }
            int kind = random.nextInt(10);
            int object = random.nextInt(chance(5) ? 10 : 4);
            if (object < model.objects.size()) {
                int type = model.objects.get(object).type;
                for (kind = random.nextInt(10); Model.TYPES[kind] != type;) {
                    kind = random.nextInt(10);
                }
            }
            String arguments = Model.ARGUMENTS[kind] == 0 ? "" : Model.ARGUMENTS[kind] == 1 ? number()
                : number() + "," + number();
            return thread + "." + object + "." + Model.NAMES[kind] + "(" + arguments + ")";
        }

        String number() {
            String digits = chance(85) ? "" + random.nextInt(values) : "" + random.nextInt(1000);
            String zeros = chance(10) && digits.length() < 3 ? "0" : "";
            return (chance(8) ? "-" : "") + zeros + digits;
        }

        void spoil(StringBuilder line) {
            String odd = ";.!=(),- 0129adegirsvtwxS";
            int index = random.nextInt(line.length());
            char character = odd.charAt(random.nextInt(odd.length()));
            int choice = random.nextInt(4);
            if (choice == 0) {
                line.setLength(index);
            } else if (choice == 1) {
                line.deleteCharAt(index);
            } else if (choice == 2) {
                line.insert(index, character);
            } else {
                line.setCharAt(index, character);
            }
        }

        void question() {
            history();
            int thread = pick(0, 3);
            int result = plausibleResult();
            List<Operation> all = model.operations();
            due("isLinearizable()", program.isLinearizable(), model.linearizable(model.events) ? 1 : 0);
            due("isSequentiallyConsistent()", program.isSequentiallyConsistent(),
                model.linearizations(all, false, 1).isEmpty() ? 0 : 1);
            due("firstViolation()", program.firstViolation(), model.firstViolation());
            int object = pick(0, 3);
            due("isObjectLinearizable(" + object + ")", program.isObjectLinearizable(object),
                model.isObjectLinearizable(object));
            due("canRespond(" + thread + ", " + result + ")", program.canRespond(thread, result),
                model.canRespond(thread, result));
            linearizations(model.linearizations(all, true, Integer.MAX_VALUE));
            Operation waiting = Model.pending(all, thread);
            boolean dear = waiting != null && Model.TYPES[waiting.invocation.kind] == 1;
            if (operations <= 5 && (!dear || number % 20 == 1)) {
                due("countResponses(" + thread + ")", program.countResponses(thread), model.countResponses(thread));
            }
        }

        void linearizations(List<List<Operation>> all) {
            due("countLinearizations()", program.countLinearizations(), all.size());
            List<Operation> first = all.isEmpty() ? null : all.get(0);
            due("firstLinearizationLength()", program.firstLinearizationLength(), first == null ? -10 : first.size());
            for (int position = -1; position <= 10; position++) {
                boolean there = first != null && position >= 0 && position < first.size();
                due("firstLinearizationAt(" + position + ")", program.firstLinearizationAt(position),
                    there ? first.get(position).number : -10);
            }
        }

        void history() {
            int first = pick(0, model.operations().size() - 1);
            int second = pick(0, model.operations().size() - 1);
            int object = pick(0, 3);
            due("objectCount()", program.objectCount(), model.objects.size());
            due("typeOf(" + object + ")", program.typeOf(object),
                object >= 0 && object < model.objects.size() ? model.objects.get(object).type : -2);
            due("eventCount()", program.eventCount(), model.events.size());
            due("operationCount()", program.operationCount(), model.operations().size());
            due("kindOf(" + first + ")", program.kindOf(first), model.data("kindOf", first));
            due("threadOf(" + first + ")", program.threadOf(first), model.data("threadOf", first));
            due("objectOf(" + first + ")", program.objectOf(first), model.data("objectOf", first));
            due("invocationTime(" + first + ")", program.invocationTime(first), model.data("invocationTime", first));
            due("responseTime(" + first + ")", program.responseTime(first), model.data("responseTime", first));
            due("resultOf(" + first + ")", program.resultOf(first), model.data("resultOf", first));
            due("precedes(" + first + ", " + second + ")", program.precedes(first, second),
                model.precedes(first, second));
            due("maxPending()", program.maxPending(), model.maxPending());
            due("longestChain()", program.longestChain(), model.longestChain());
        }

        /** Goes on to a full history, where wide ones have thousands of linearizations. */
        void tenOperations() {
            if (operations != 10) {
                return;
            }
            for (int tries = 0; tries < 60; tries++) {
                if (chance(50)) {
                    invoke();
                } else {
                    respond();
                }
            }
            question();
        }
    }
}
