/**
 * A linearizability checker for histories of concurrent operations on shared objects.
 *
 * <p>The history is recorded event by event; the questions are answered by trying sequences of its
 * operations. All rows are made in the constructor, so that no later call makes an object.
 */
public final class LinearizabilityChecker {
    public static final int REGISTER = 0;
    public static final int COUNTER = 1;
    public static final int QUEUE = 2;
    public static final int SET = 3;
    public static final int READ = 0;
    public static final int WRITE = 1;
    public static final int COMPARE_AND_SET = 2;
    public static final int GET = 3;
    public static final int ADD = 4;
    public static final int ENQUEUE = 5;
    public static final int DEQUEUE = 6;
    public static final int INSERT = 7;
    public static final int REMOVE = 8;
    public static final int CONTAINS = 9;
    public static final int EMPTY = -1;
    public static final int NO_SUCH_THREAD = -1;
    public static final int NO_SUCH_OBJECT = -2;
    public static final int WRONG_TYPE = -3;
    public static final int BAD_VALUE = -4;
    public static final int THREAD_CRASHED = -5;
    public static final int THREAD_BUSY = -6;
    public static final int THREAD_IDLE = -7;
    public static final int FULL = -8;
    public static final int NO_SUCH_OPERATION = -9;
    public static final int NONE = -10;
    public static final int NOTHING_TO_UNDO = -11;
    public static final int DUPLICATE = -12;
    public static final int NO_SNAPSHOT = -13;

    private static final int THREADS = 4;
    private static final int MAX_OBJECTS = 4;
    private static final int MAX_OPERATIONS = 10;
    /** Every operation has an invocation and a response, every thread one crash at most. */
    private static final int MAX_EVENTS = 2 * MAX_OPERATIONS + THREADS;
    private static final int MAX_TEXT = 120;
    /** No command is shorter than two characters. */
    private static final int MAX_COMMANDS = MAX_TEXT / 2;
    private static final int MAX_DIGITS = 3;
    private static final int LOWEST_CHARACTER = 32;
    private static final int HIGHEST_CHARACTER = 126;
    private static final int HIGHEST_VALUE = 99;
    private static final int HIGHEST_COUNT = 999;
    private static final int RESULT_OFFSET = 1000;
    private static final int SYNTAX_ERROR = -1000;
    private static final int COMMAND_ERROR = -2000;
    private static final int INVOCATION = 0;
    private static final int RESPONSE = 1;
    private static final int CRASH = 2;
    /** Stands where there is no operation, no response or no object. */
    private static final int ABSENT = -1;

    private final Recording current;
    private final Recording saved;
    private final Search search;
    private final TextBuffer text;
    private final Parser parser;
    private boolean hasSnapshot;

    public LinearizabilityChecker() {
        current = new Recording();
        saved = new Recording();
        search = new Search(current);
        text = new TextBuffer();
        parser = new Parser(text);
        hasSnapshot = false;
    }

    // Objects

    public int createRegister(int initial) {
        if (!isBetween(initial, 0, HIGHEST_VALUE)) {
            return BAD_VALUE;
        }
        return createObject(REGISTER, initial);
    }

    public int createCounter(int initial) {
        if (!isBetween(initial, -HIGHEST_VALUE, HIGHEST_VALUE)) {
            return BAD_VALUE;
        }
        return createObject(COUNTER, initial);
    }

    public int createQueue() {
        return createObject(QUEUE, 0);
    }

    public int createSet() {
        return createObject(SET, 0);
    }

    public int objectCount() {
        return current.objects.count;
    }

    public int typeOf(int object) {
        if (!current.objects.has(object)) {
            return NO_SUCH_OBJECT;
        }
        return current.objects.types[object];
    }

    public int reset() {
        int removed = current.history.events;
        current.clearAll();
        return removed;
    }

    // Events

    public int invokeRead(int thread, int object) {
        return invoke(READ, thread, object, 0, 0);
    }

    public int invokeWrite(int thread, int object, int value) {
        return invoke(WRITE, thread, object, value, 0);
    }

    public int invokeCompareAndSet(int thread, int object, int expected, int update) {
        return invoke(COMPARE_AND_SET, thread, object, expected, update);
    }

    public int invokeGet(int thread, int object) {
        return invoke(GET, thread, object, 0, 0);
    }

    public int invokeAdd(int thread, int object, int delta) {
        return invoke(ADD, thread, object, delta, 0);
    }

    public int invokeEnqueue(int thread, int object, int value) {
        return invoke(ENQUEUE, thread, object, value, 0);
    }

    public int invokeDequeue(int thread, int object) {
        return invoke(DEQUEUE, thread, object, 0, 0);
    }

    public int invokeInsert(int thread, int object, int value) {
        return invoke(INSERT, thread, object, value, 0);
    }

    public int invokeRemove(int thread, int object, int value) {
        return invoke(REMOVE, thread, object, value, 0);
    }

    public int invokeContains(int thread, int object, int value) {
        return invoke(CONTAINS, thread, object, value, 0);
    }

    public int respond(int thread, int result) {
        int error = responseError(thread, result);
        if (error != 0) {
            return error;
        }
        int operation = current.history.pendingOperation[thread];
        current.history.addResponse(thread, result);
        current.order.empty();
        return operation;
    }

    public int crash(int thread) {
        if (!isThread(thread)) {
            return NO_SUCH_THREAD;
        }
        if (current.history.crashed[thread]) {
            return THREAD_CRASHED;
        }
        int time = current.history.events;
        current.history.addCrash(thread);
        current.order.empty();
        return time;
    }

    public int undo() {
        if (current.history.events == 0) {
            return NOTHING_TO_UNDO;
        }
        current.history.removeLastEvent();
        current.order.empty();
        return current.history.events;
    }

    // The history

    public int eventCount() {
        return current.history.events;
    }

    public int operationCount() {
        return current.history.operations;
    }

    public int kindOf(int operation) {
        if (!current.history.has(operation)) {
            return NO_SUCH_OPERATION;
        }
        return current.history.kinds[operation];
    }

    public int threadOf(int operation) {
        if (!current.history.has(operation)) {
            return NO_SUCH_OPERATION;
        }
        return current.history.threads[operation];
    }

    public int objectOf(int operation) {
        if (!current.history.has(operation)) {
            return NO_SUCH_OPERATION;
        }
        return current.history.objects[operation];
    }

    public int invocationTime(int operation) {
        if (!current.history.has(operation)) {
            return NO_SUCH_OPERATION;
        }
        return current.history.invokedAt[operation];
    }

    public int responseTime(int operation) {
        if (!current.history.has(operation)) {
            return NO_SUCH_OPERATION;
        }
        if (current.history.isPending(operation)) {
            return NONE;
        }
        return current.history.respondedAt[operation];
    }

    public int resultOf(int operation) {
        if (!current.history.has(operation)) {
            return NO_SUCH_OPERATION;
        }
        if (current.history.isPending(operation)) {
            return NONE;
        }
        return current.history.results[operation] + RESULT_OFFSET;
    }

    public int precedes(int first, int second) {
        if (!current.history.has(first) || !current.history.has(second)) {
            return NO_SUCH_OPERATION;
        }
        return truth(current.history.isBefore(first, second));
    }

    public int maxPending() {
        return current.history.mostPending();
    }

    public int longestChain() {
        return current.history.chainLength();
    }

    // Linearizability

    public int isLinearizable() {
        return truth(isPrefixLinearizable(current.history.events));
    }

    public int isObjectLinearizable(int object) {
        if (!current.objects.has(object)) {
            return NO_SUCH_OBJECT;
        }
        search.prepare(current.history.events, object);
        search.keepRealTimeOrder();
        return truth(search.findsOne());
    }

    public int isSequentiallyConsistent() {
        search.prepare(current.history.events, ABSENT);
        search.keepThreadOrder();
        return truth(search.findsOne());
    }

    public int countLinearizations() {
        prepareWholeHistory();
        return search.countAll();
    }

    public int firstLinearizationLength() {
        prepareWholeHistory();
        if (!search.findsOne()) {
            return NONE;
        }
        return search.foundLength;
    }

    public int firstLinearizationAt(int position) {
        prepareWholeHistory();
        if (!search.findsOne() || !isBetween(position, 0, search.foundLength - 1)) {
            return NONE;
        }
        return search.sequence[position];
    }

    public int firstViolation() {
        for (int length = 1; length <= current.history.events; length++) {
            // An invocation or a crash asks nothing new of a sequence: only a response can break one.
            if (current.history.endsWithResponse(length) && !isPrefixLinearizable(length)) {
                return length;
            }
        }
        return NONE;
    }

    public int canRespond(int thread, int result) {
        int error = responseError(thread, result);
        if (error != 0) {
            return error;
        }
        prepareWholeHistory();
        search.requireResult(current.history.pendingOperation[thread], result);
        return truth(search.findsOne());
    }

    public int countResponses(int thread) {
        int error = waitingError(thread);
        if (error != 0) {
            return error;
        }
        int operation = current.history.pendingOperation[thread];
        int kind = current.history.kinds[operation];
        prepareWholeHistory();
        return search.countResults(operation, lowestResult(kind), highestResult(kind));
    }

    // The order buffer

    public int appendToOrder(int operation) {
        if (!current.history.has(operation)) {
            return NO_SUCH_OPERATION;
        }
        if (current.order.positionOf(operation) != ABSENT) {
            return DUPLICATE;
        }
        current.order.append(operation);
        return current.order.size;
    }

    public int removeFromOrder(int operation) {
        if (!current.history.has(operation)) {
            return NO_SUCH_OPERATION;
        }
        int position = current.order.positionOf(operation);
        if (position == ABSENT) {
            return NONE;
        }
        current.order.removeAt(position);
        return position;
    }

    public int orderSize() {
        return current.order.size;
    }

    public int orderAt(int position) {
        if (!isBetween(position, 0, current.order.size - 1)) {
            return NONE;
        }
        return current.order.operations[position];
    }

    public int isOrderLinearization() {
        prepareWholeHistory();
        return truth(search.coversRequired(current.order) && search.badPosition(current.order) == ABSENT);
    }

    public int firstBadPosition() {
        prepareWholeHistory();
        int position = search.badPosition(current.order);
        return position == ABSENT ? NONE : position;
    }

    // The text

    public int appendCharacter(int character) {
        if (!isBetween(character, LOWEST_CHARACTER, HIGHEST_CHARACTER)) {
            return BAD_VALUE;
        }
        if (text.length >= MAX_TEXT) {
            return FULL;
        }
        text.append((char) character);
        return text.length;
    }

    public int clearText() {
        int length = text.length;
        text.empty();
        return length;
    }

    public int parseText() {
        boolean valid = parser.readsAll();
        text.empty();
        if (!valid) {
            return SYNTAX_ERROR - parser.position;
        }
        for (int command = 0; command < parser.commands; command++) {
            if (execute(command) < 0) {
                return COMMAND_ERROR - command;
            }
        }
        return parser.commands;
    }

    // The snapshot

    public int saveSnapshot() {
        saved.copyFrom(current);
        hasSnapshot = true;
        return saved.history.events;
    }

    public int restoreSnapshot() {
        if (!hasSnapshot) {
            return NO_SNAPSHOT;
        }
        current.copyFrom(saved);
        return current.history.events;
    }

    // What several methods share

    private int createObject(int type, int initial) {
        if (current.objects.count >= MAX_OBJECTS) {
            return FULL;
        }
        int object = current.objects.count;
        current.objects.append(type, initial);
        current.order.empty();
        return object;
    }

    private int invoke(int kind, int thread, int object, int first, int second) {
        int error = invocationError(kind, thread, object, first, second);
        if (error != 0) {
            return error;
        }
        int operation = current.history.operations;
        current.history.addInvocation(kind, thread, object, first, second);
        current.order.empty();
        return operation;
    }

    /** Returns 0 if there is no error. An argument that the kind does not have is passed as 0. */
    private int invocationError(int kind, int thread, int object, int first, int second) {
        if (!isThread(thread)) {
            return NO_SUCH_THREAD;
        }
        if (!current.objects.has(object)) {
            return NO_SUCH_OBJECT;
        }
        if (current.objects.types[object] != requiredType(kind)) {
            return WRONG_TYPE;
        }
        int lowest = kind == ADD ? -HIGHEST_VALUE : 0;
        if (!isBetween(first, lowest, HIGHEST_VALUE) || !isBetween(second, 0, HIGHEST_VALUE)) {
            return BAD_VALUE;
        }
        if (current.history.crashed[thread]) {
            return THREAD_CRASHED;
        }
        if (current.history.pendingOperation[thread] != ABSENT) {
            return THREAD_BUSY;
        }
        if (current.history.operations >= MAX_OPERATIONS) {
            return FULL;
        }
        return 0;
    }

    /** Returns 0 if the thread could respond with this result. */
    private int responseError(int thread, int result) {
        int error = waitingError(thread);
        if (error != 0) {
            return error;
        }
        int kind = current.history.kinds[current.history.pendingOperation[thread]];
        if (!isBetween(result, lowestResult(kind), highestResult(kind))) {
            return BAD_VALUE;
        }
        return 0;
    }

    /** Returns 0 if the thread has a pending operation to which it can still respond. */
    private int waitingError(int thread) {
        if (!isThread(thread)) {
            return NO_SUCH_THREAD;
        }
        if (current.history.crashed[thread]) {
            return THREAD_CRASHED;
        }
        if (!current.history.has(current.history.pendingOperation[thread])) {
            return THREAD_IDLE;
        }
        return 0;
    }

    private void prepareWholeHistory() {
        search.prepare(current.history.events, ABSENT);
        search.keepRealTimeOrder();
    }

    private boolean isPrefixLinearizable(int length) {
        search.prepare(length, ABSENT);
        search.keepRealTimeOrder();
        return search.findsOne();
    }

    /** Calls the method that the command names, and returns its answer. */
    private int execute(int command) {
        int thread = parser.threads[command];
        int first = parser.firstNumbers[command];
        int second = parser.secondNumbers[command];
        switch (parser.forms[command]) {
            case RESPONSE:
                return respond(thread, first);
            case CRASH:
                return crash(thread);
            default:
                return invoke(parser.kinds[command], thread, parser.objects[command], first, second);
        }
    }

    private static boolean isBetween(int number, int lowest, int highest) {
        return number >= lowest && number <= highest;
    }

    private static boolean isThread(int thread) {
        return isBetween(thread, 0, THREADS - 1);
    }

    private static int truth(boolean holds) {
        return holds ? 1 : 0;
    }

    private static int requiredType(int kind) {
        switch (kind) {
            case READ:
            case WRITE:
            case COMPARE_AND_SET:
                return REGISTER;
            case GET:
            case ADD:
                return COUNTER;
            case ENQUEUE:
            case DEQUEUE:
                return QUEUE;
            default:
                return SET;
        }
    }

    private static int lowestResult(int kind) {
        switch (kind) {
            case GET:
            case ADD:
                return -HIGHEST_COUNT;
            case DEQUEUE:
                return EMPTY;
            default:
                return 0;
        }
    }

    private static int highestResult(int kind) {
        switch (kind) {
            case READ:
            case DEQUEUE:
                return HIGHEST_VALUE;
            case WRITE:
            case ENQUEUE:
                return 0;
            case GET:
            case ADD:
                return HIGHEST_COUNT;
            default:
                return 1;
        }
    }

    private static int argumentCount(int kind) {
        switch (kind) {
            case READ:
            case GET:
            case DEQUEUE:
                return 0;
            case COMPARE_AND_SET:
                return 2;
            default:
                return 1;
        }
    }

    private static String nameOf(int kind) {
        switch (kind) {
            case READ:
                return "read";
            case WRITE:
                return "write";
            case COMPARE_AND_SET:
                return "compareAndSet";
            case GET:
                return "get";
            case ADD:
                return "add";
            case ENQUEUE:
                return "enqueue";
            case DEQUEUE:
                return "dequeue";
            case INSERT:
                return "insert";
            case REMOVE:
                return "remove";
            default:
                return "contains";
        }
    }

    /** The shared objects: their types and initial values. */
    private static final class ObjectTable {
        private int count;
        private final int[] types = new int[MAX_OBJECTS];
        private final int[] initials = new int[MAX_OBJECTS];

        boolean has(int object) {
            return isBetween(object, 0, count - 1);
        }

        void append(int type, int initial) {
            if (count < MAX_OBJECTS) {
                types[count] = type;
                initials[count] = initial;
                count++;
            }
        }

        void copyObjects(ObjectTable other) {
            count = other.count;
            System.arraycopy(other.types, 0, types, 0, MAX_OBJECTS);
            System.arraycopy(other.initials, 0, initials, 0, MAX_OBJECTS);
        }
    }

    /** The list of events and the operations that they make. */
    private static final class History {
        private int events;
        private final int[] eventForms = new int[MAX_EVENTS];
        private final int[] eventThreads = new int[MAX_EVENTS];
        private final int[] eventOperations = new int[MAX_EVENTS];
        private int operations;
        private final int[] kinds = new int[MAX_OPERATIONS];
        private final int[] threads = new int[MAX_OPERATIONS];
        private final int[] objects = new int[MAX_OPERATIONS];
        private final int[] firstArguments = new int[MAX_OPERATIONS];
        private final int[] secondArguments = new int[MAX_OPERATIONS];
        private final int[] invokedAt = new int[MAX_OPERATIONS];
        private final int[] respondedAt = new int[MAX_OPERATIONS];
        private final int[] results = new int[MAX_OPERATIONS];
        private final int[] pendingOperation = new int[THREADS];
        private final boolean[] crashed = new boolean[THREADS];
        /** The longest chain that ends with each operation: work space of chainLength. */
        private final int[] chains = new int[MAX_OPERATIONS];

        History() {
            clearHistory();
        }

        void clearHistory() {
            events = 0;
            operations = 0;
            for (int thread = 0; thread < THREADS; thread++) {
                pendingOperation[thread] = ABSENT;
                crashed[thread] = false;
            }
        }

        boolean has(int operation) {
            return isBetween(operation, 0, operations - 1);
        }

        boolean isPending(int operation) {
            return respondedAt[operation] == ABSENT;
        }

        boolean isBefore(int first, int second) {
            return !isPending(first) && respondedAt[first] < invokedAt[second];
        }

        boolean endsWithResponse(int length) {
            return isBetween(length, 1, events) && eventForms[length - 1] == RESPONSE;
        }

        void addInvocation(int kind, int thread, int object, int first, int second) {
            if (operations >= MAX_OPERATIONS) {
                return;
            }
            kinds[operations] = kind;
            threads[operations] = thread;
            objects[operations] = object;
            firstArguments[operations] = first;
            secondArguments[operations] = second;
            invokedAt[operations] = events;
            respondedAt[operations] = ABSENT;
            pendingOperation[thread] = operations;
            addEvent(INVOCATION, thread, operations);
            operations++;
        }

        void addResponse(int thread, int result) {
            int operation = pendingOperation[thread];
            if (!has(operation)) {
                return;
            }
            respondedAt[operation] = events;
            results[operation] = result;
            pendingOperation[thread] = ABSENT;
            addEvent(RESPONSE, thread, operation);
        }

        void addCrash(int thread) {
            crashed[thread] = true;
            addEvent(CRASH, thread, ABSENT);
        }

        private void addEvent(int form, int thread, int operation) {
            if (events < MAX_EVENTS) {
                eventForms[events] = form;
                eventThreads[events] = thread;
                eventOperations[events] = operation;
                events++;
            }
        }

        void removeLastEvent() {
            if (events == 0) {
                return;
            }
            events--;
            int thread = eventThreads[events];
            switch (eventForms[events]) {
                case INVOCATION:
                    operations--;
                    pendingOperation[thread] = ABSENT;
                    break;
                case RESPONSE:
                    pendingOperation[thread] = eventOperations[events];
                    respondedAt[eventOperations[events]] = ABSENT;
                    break;
                default:
                    crashed[thread] = false;
                    break;
            }
        }

        int mostPending() {
            int pending = 0;
            int most = 0;
            for (int time = 0; time < events; time++) {
                if (eventForms[time] == INVOCATION) {
                    pending++;
                } else if (eventForms[time] == RESPONSE) {
                    pending--;
                }
                most = Math.max(most, pending);
            }
            return most;
        }

        int chainLength() {
            int longest = 0;
            for (int last = 0; last < operations; last++) {
                chains[last] = 1;
                // What precedes an operation was invoked before it and has a smaller number.
                for (int earlier = 0; earlier < last; earlier++) {
                    if (isBefore(earlier, last)) {
                        chains[last] = Math.max(chains[last], chains[earlier] + 1);
                    }
                }
                longest = Math.max(longest, chains[last]);
            }
            return longest;
        }

        void copyHistory(History other) {
            events = other.events;
            System.arraycopy(other.eventForms, 0, eventForms, 0, MAX_EVENTS);
            System.arraycopy(other.eventThreads, 0, eventThreads, 0, MAX_EVENTS);
            System.arraycopy(other.eventOperations, 0, eventOperations, 0, MAX_EVENTS);
            operations = other.operations;
            System.arraycopy(other.kinds, 0, kinds, 0, MAX_OPERATIONS);
            System.arraycopy(other.threads, 0, threads, 0, MAX_OPERATIONS);
            System.arraycopy(other.objects, 0, objects, 0, MAX_OPERATIONS);
            System.arraycopy(other.firstArguments, 0, firstArguments, 0, MAX_OPERATIONS);
            System.arraycopy(other.secondArguments, 0, secondArguments, 0, MAX_OPERATIONS);
            System.arraycopy(other.invokedAt, 0, invokedAt, 0, MAX_OPERATIONS);
            System.arraycopy(other.respondedAt, 0, respondedAt, 0, MAX_OPERATIONS);
            System.arraycopy(other.results, 0, results, 0, MAX_OPERATIONS);
            System.arraycopy(other.pendingOperation, 0, pendingOperation, 0, THREADS);
            for (int thread = 0; thread < THREADS; thread++) {
                crashed[thread] = other.crashed[thread];
            }
        }
    }

    /** The distinct operations that the caller has put in order. */
    private static final class OrderBuffer {
        private int size;
        private final int[] operations = new int[MAX_OPERATIONS];

        void empty() {
            size = 0;
        }

        int positionOf(int operation) {
            for (int position = 0; position < size; position++) {
                if (operations[position] == operation) {
                    return position;
                }
            }
            return ABSENT;
        }

        void append(int operation) {
            if (size < MAX_OPERATIONS) {
                operations[size] = operation;
                size++;
            }
        }

        void removeAt(int position) {
            if (!isBetween(position, 0, size - 1)) {
                return;
            }
            size--;
            for (int behind = position; behind < size; behind++) {
                operations[behind] = operations[behind + 1];
            }
        }

        void copyOrder(OrderBuffer other) {
            size = other.size;
            System.arraycopy(other.operations, 0, operations, 0, MAX_OPERATIONS);
        }
    }

    /** All that a snapshot holds. */
    private static final class Recording {
        private final ObjectTable objects = new ObjectTable();
        private final History history = new History();
        private final OrderBuffer order = new OrderBuffer();

        void clearAll() {
            objects.count = 0;
            history.clearHistory();
            order.empty();
        }

        void copyFrom(Recording other) {
            objects.copyObjects(other.objects);
            history.copyHistory(other.history);
            order.copyOrder(other.order);
        }
    }

    /** The state of one shared object while operations are executed one after the other. */
    private static final class SharedState {
        /** What a register or a counter stores. */
        private int value;
        /** The elements of a queue stand from head to tail; those before head are kept for takeBack. */
        private final int[] slots = new int[MAX_OPERATIONS];
        private int head;
        private int tail;
        /** Which integers are in a set. */
        private final boolean[] elements = new boolean[HIGHEST_VALUE + 1];

        void start(int initial) {
            value = initial;
            head = 0;
            tail = 0;
            for (int element = 0; element <= HIGHEST_VALUE; element++) {
                elements[element] = false;
            }
        }

        int perform(int kind, int first, int second) {
            switch (kind) {
                case WRITE:
                    value = first;
                    return 0;
                case COMPARE_AND_SET:
                    return compareAndSet(first, second);
                case ADD:
                    value += first;
                    return value - first;
                case ENQUEUE:
                    return enqueue(first);
                case DEQUEUE:
                    return dequeue();
                case INSERT:
                    return truth(changesElement(first, true));
                case REMOVE:
                    return truth(changesElement(first, false));
                case CONTAINS:
                    return truth(elements[first]);
                default:
                    return value;
            }
        }

        /** Undoes the last operation, which gave this result when the stored value was oldValue. */
        void takeBack(int kind, int first, int result, int oldValue) {
            value = oldValue;
            if (kind == ENQUEUE) {
                tail--;
            } else if (kind == DEQUEUE && result != EMPTY) {
                head--;
            } else if (kind == INSERT && result == 1) {
                changesElement(first, false);
            } else if (kind == REMOVE && result == 1) {
                changesElement(first, true);
            }
        }

        private int compareAndSet(int expected, int update) {
            if (value != expected) {
                return 0;
            }
            value = update;
            return 1;
        }

        private int enqueue(int element) {
            if (isBetween(tail, 0, MAX_OPERATIONS - 1)) {
                slots[tail] = element;
            }
            tail++;
            return 0;
        }

        private int dequeue() {
            if (head >= tail || !isBetween(head, 0, MAX_OPERATIONS - 1)) {
                return EMPTY;
            }
            head++;
            return slots[head - 1];
        }

        /** Puts the element in or out, and returns whether that changed the set. */
        private boolean changesElement(int element, boolean in) {
            if (elements[element] == in) {
                return false;
            }
            elements[element] = in;
            return true;
        }
    }

    /** Tries sequences of operations. A set of operations is an int with a bit for each of them. */
    private static final class Search {
        private final ObjectTable objects;
        private final History history;
        private final SharedState[] states = new SharedState[MAX_OBJECTS];
        /** The operations that a sequence may contain. */
        private int allowed;
        /** The operations that a sequence must contain. */
        private int required;
        /** The operations whose results are compared. */
        private int compared;
        private final int[] expected = new int[MAX_OPERATIONS];
        /** For each operation, the allowed ones that must stand before it. */
        private final int[] before = new int[MAX_OPERATIONS];
        private final int[] sequence = new int[MAX_OPERATIONS];
        private int foundLength;
        private int found;
        private boolean onlyFirst;
        /** The operation whose results are collected, or ABSENT. */
        private int watched;
        private int watchedResult;
        private final boolean[] reached = new boolean[2 * HIGHEST_COUNT + 1];

        Search(Recording recording) {
            objects = recording.objects;
            history = recording.history;
            for (int object = 0; object < MAX_OBJECTS; object++) {
                states[object] = new SharedState();
            }
        }

        /** Takes the first events of the history, of one object alone unless it is ABSENT. */
        void prepare(int length, int object) {
            allowed = 0;
            required = 0;
            watched = ABSENT;
            for (int operation = 0; operation < history.operations; operation++) {
                boolean chosen = object == ABSENT || history.objects[operation] == object;
                if (chosen && history.invokedAt[operation] < length) {
                    allowed |= 1 << operation;
                    if (!history.isPending(operation) && history.respondedAt[operation] < length) {
                        required |= 1 << operation;
                        expected[operation] = history.results[operation];
                    }
                }
            }
            compared = required;
            for (int started = 0; started < objects.count; started++) {
                states[started].start(objects.initials[started]);
            }
        }

        void keepRealTimeOrder() {
            for (int operation = 0; operation < history.operations; operation++) {
                before[operation] = 0;
                for (int earlier = 0; earlier < operation; earlier++) {
                    if (history.isBefore(earlier, operation)) {
                        before[operation] |= allowed & (1 << earlier);
                    }
                }
            }
        }

        void keepThreadOrder() {
            for (int operation = 0; operation < history.operations; operation++) {
                before[operation] = 0;
                for (int earlier = 0; earlier < operation; earlier++) {
                    if (history.threads[earlier] == history.threads[operation]) {
                        before[operation] |= allowed & (1 << earlier);
                    }
                }
            }
        }

        void requireResult(int operation, int result) {
            required |= 1 << operation;
            compared |= 1 << operation;
            expected[operation] = result;
        }

        /** Looks for the smallest sequence; if there is one, it stands in sequence up to foundLength. */
        boolean findsOne() {
            onlyFirst = true;
            found = 0;
            extend(this, 0, 0);
            return found > 0;
        }

        int countAll() {
            onlyFirst = false;
            found = 0;
            extend(this, 0, 0);
            return found;
        }

        /** Counts the results from lowest to highest that a pending operation can return. */
        int countResults(int operation, int lowest, int highest) {
            for (int index = 0; index < reached.length; index++) {
                reached[index] = false;
            }
            required |= 1 << operation;
            watched = operation;
            countAll();
            int results = 0;
            for (int result = lowest; result <= highest; result++) {
                if (reached[result + HIGHEST_COUNT]) {
                    results++;
                }
            }
            return results;
        }

        boolean coversRequired(OrderBuffer order) {
            int missing = required;
            for (int position = 0; position < order.size; position++) {
                missing &= ~(1 << order.operations[position]);
            }
            return missing == 0;
        }

        /** Returns the first position that breaks a rule, or ABSENT. */
        int badPosition(OrderBuffer order) {
            int used = 0;
            for (int position = 0; position < order.size; position++) {
                int operation = order.operations[position];
                if (!mayFollow(operation, used) || !agrees(operation, resultOfNext(operation))) {
                    return position;
                }
                used |= 1 << operation;
            }
            return ABSENT;
        }

        private int resultOfNext(int operation) {
            SharedState state = states[history.objects[operation]];
            return state.perform(history.kinds[operation], history.firstArguments[operation],
                history.secondArguments[operation]);
        }

        /**
         * Tries all sequences that begin with the used operations. A sequence is looked at before
         * those that it begins, and these in the order of their next operations: so the smallest
         * one is found first.
         */
        private static void extend(Search search, int used, int length) {
            if ((search.required & ~used) == 0) {
                search.noteFound(length);
            }
            if (length >= MAX_OPERATIONS) {
                return;
            }
            for (int next = 0; next < search.history.operations && !search.isOver(); next++) {
                if (search.mayFollow(next, used)) {
                    search.tryNext(next, used, length);
                }
            }
        }

        private void tryNext(int operation, int used, int length) {
            SharedState state = states[history.objects[operation]];
            int kind = history.kinds[operation];
            int first = history.firstArguments[operation];
            int oldValue = state.value;
            int result = state.perform(kind, first, history.secondArguments[operation]);
            if (operation == watched) {
                watchedResult = result;
            }
            if (agrees(operation, result)) {
                sequence[length] = operation;
                extend(this, used | (1 << operation), length + 1);
            }
            state.takeBack(kind, first, result, oldValue);
        }

        private void noteFound(int length) {
            found++;
            foundLength = length;
            if (watched != ABSENT && isBetween(watchedResult, -HIGHEST_COUNT, HIGHEST_COUNT)) {
                reached[watchedResult + HIGHEST_COUNT] = true;
            }
        }

        private boolean isOver() {
            return onlyFirst && found > 0;
        }

        private boolean mayFollow(int operation, int used) {
            int left = allowed & ~used;
            return (left & (1 << operation)) != 0 && (before[operation] & ~used) == 0;
        }

        private boolean agrees(int operation, int result) {
            return (compared & (1 << operation)) == 0 || expected[operation] == result;
        }
    }

    /** The text that the caller has put together. */
    private static final class TextBuffer {
        private int length;
        private final char[] characters = new char[MAX_TEXT];

        void empty() {
            length = 0;
        }

        void append(char character) {
            if (length < MAX_TEXT) {
                characters[length] = character;
                length++;
            }
        }
    }

    /** Reads a text into rows of commands. */
    private static final class Parser {
        private int commands;
        private final int[] forms = new int[MAX_COMMANDS];
        private final int[] threads = new int[MAX_COMMANDS];
        private final int[] objects = new int[MAX_COMMANDS];
        private final int[] kinds = new int[MAX_COMMANDS];
        private final int[] firstNumbers = new int[MAX_COMMANDS];
        private final int[] secondNumbers = new int[MAX_COMMANDS];
        private final TextBuffer text;
        /** The next character to read; after a failure, the syntax error position. */
        private int position;
        private boolean failed;

        Parser(TextBuffer text) {
            this.text = text;
        }

        /** Returns whether the text is valid. */
        boolean readsAll() {
            commands = 0;
            position = 0;
            failed = false;
            takeCommand();
            for (int more = 1; more < MAX_COMMANDS && !failed && position < text.length; more++) {
                take(';');
                takeCommand();
            }
            return !failed;
        }

        private void takeCommand() {
            int row = commands;
            if (row >= MAX_COMMANDS) {
                failed = true;
                return;
            }
            threads[row] = takeDigit();
            objects[row] = 0;
            kinds[row] = READ;
            firstNumbers[row] = 0;
            secondNumbers[row] = 0;
            if (isNext('!')) {
                forms[row] = CRASH;
                take('!');
            } else if (isNext('=')) {
                forms[row] = RESPONSE;
                take('=');
                firstNumbers[row] = takeNumber();
            } else {
                forms[row] = INVOCATION;
                takeInvocation(row);
            }
            commands++;
        }

        private void takeInvocation(int row) {
            take('.');
            objects[row] = takeDigit();
            take('.');
            kinds[row] = takeName();
            take('(');
            int arguments = argumentCount(kinds[row]);
            if (arguments >= 1) {
                firstNumbers[row] = takeNumber();
            }
            if (arguments >= 2) {
                take(',');
                secondNumbers[row] = takeNumber();
            }
            take(')');
        }

        private int takeName() {
            int longest = 0;
            for (int kind = READ; kind <= CONTAINS; kind++) {
                String name = nameOf(kind);
                int agreeing = agreeingCharacters(name);
                if (agreeing == name.length() && !failed) {
                    position += agreeing;
                    return kind;
                }
                longest = Math.max(longest, agreeing);
            }
            if (!failed) {
                position += longest;
                failed = true;
            }
            return READ;
        }

        private int agreeingCharacters(String name) {
            int agreeing = 0;
            while (agreeing < name.length() && isAt(position + agreeing, name.charAt(agreeing))) {
                agreeing++;
            }
            return agreeing;
        }

        private int takeNumber() {
            boolean negative = isNext('-');
            if (negative) {
                take('-');
            }
            int number = takeDigit();
            for (int digits = 1; digits < MAX_DIGITS && isNextDigit(); digits++) {
                number = number * 10 + takeDigit();
            }
            return negative ? -number : number;
        }

        private int takeDigit() {
            if (failed || !isNextDigit()) {
                failed = true;
                return 0;
            }
            position++;
            return text.characters[position - 1] - '0';
        }

        private void take(char character) {
            if (failed || !isAt(position, character)) {
                failed = true;
                return;
            }
            position++;
        }

        private boolean isNext(char character) {
            return isAt(position, character);
        }

        private boolean isAt(int index, char character) {
            return isBetween(index, 0, text.length - 1) && text.characters[index] == character;
        }

        private boolean isNextDigit() {
            return isBetween(position, 0, text.length - 1)
                && isBetween(text.characters[position], '0', '9');
        }
    }
}
