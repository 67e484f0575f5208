/** For each promise of the document: ordinary calls, the edges that it names, and wrong inputs. */
public final class PromiseTests {
    private static final int NO_SUCH_THREAD = -1;
    private static final int NO_SUCH_OBJECT = -2;
    private static final int WRONG_TYPE = -3;
    private static final int BAD_VALUE = -4;
    private static final int THREAD_CRASHED = -5;
    private static final int THREAD_BUSY = -6;
    private static final int THREAD_IDLE = -7;
    private static final int FULL = -8;
    private static final int NO_SUCH_OPERATION = -9;
    private static final int NONE = -10;
    private static final int NOTHING_TO_UNDO = -11;
    private static final int DUPLICATE = -12;
    private static final int NO_SNAPSHOT = -13;
    private static final int READ = 0;
    private static final int WRITE = 1;
    private static final int COMPARE_AND_SET = 2;
    private static final int GET = 3;
    private static final int ADD = 4;
    private static final int ENQUEUE = 5;
    private static final int DEQUEUE = 6;
    private static final int INSERT = 7;
    private static final int REMOVE = 8;
    private static final int CONTAINS = 9;
    private static final int[] NUMBERS_OUT_OF_RANGE = {-1, 4, Integer.MIN_VALUE, Integer.MAX_VALUE};
    private static final int[] VALUES_OUT_OF_RANGE = {-1, 100, Integer.MIN_VALUE, Integer.MAX_VALUE};

    private static int wrong = 0;

    public static void main(String[] arguments) {
        newObject();
        createRegister();
        createCounter();
        createQueue();
        createSet();
        objectCount();
        typeOf();
        reset();
        invocationErrors();
        errorsInTheirOrder();
        invokeRead();
        invokeWrite();
        invokeCompareAndSet();
        invokeGet();
        invokeAdd();
        invokeEnqueue();
        invokeDequeue();
        invokeInsert();
        invokeRemove();
        invokeContains();
        respond();
        respondRanges();
        crash();
        undo();
        eventCount();
        operationCount();
        operationData();
        invocationTime();
        responseTime();
        resultOf();
        precedes();
        maxPending();
        longestChain();
        isLinearizable();
        isObjectLinearizable();
        isSequentiallyConsistent();
        countLinearizations();
        firstLinearization();
        firstViolation();
        canRespond();
        countResponses();
        appendToOrder();
        removeFromOrder();
        orderSizeAndOrderAt();
        orderIsEmptied();
        isOrderLinearization();
        firstBadPosition();
        appendCharacter();
        clearText();
        parseSyntax();
        parseExecution();
        parseLimits();
        saveSnapshot();
        restoreSnapshot();
        examples();
        System.out.println(wrong == 0 ? "all promises hold" : wrong + " answers are wrong");
        if (wrong != 0) {
            System.exit(1);
        }
    }

    private static void due(String what, int got, int want) {
        if (got != want) {
            wrong++;
            System.out.println(what + ": answered " + got + ", due is " + want);
        }
    }

    /** A register 0 with 0, a counter 1 with 0, a queue 2 and a set 3. */
    private static LinearizabilityChecker withAllObjects() {
        LinearizabilityChecker x = new LinearizabilityChecker();
        x.createRegister(0);
        x.createCounter(0);
        x.createQueue();
        x.createSet();
        return x;
    }

    private static LinearizabilityChecker withRegister(int initial) {
        LinearizabilityChecker x = new LinearizabilityChecker();
        x.createRegister(initial);
        return x;
    }

    /** Invokes an operation with the arguments that its kind has. */
    private static int invoke(LinearizabilityChecker x, int kind, int thread, int object, int first, int second) {
        return switch (kind) {
            case READ -> x.invokeRead(thread, object);
            case WRITE -> x.invokeWrite(thread, object, first);
            case COMPARE_AND_SET -> x.invokeCompareAndSet(thread, object, first, second);
            case GET -> x.invokeGet(thread, object);
            case ADD -> x.invokeAdd(thread, object, first);
            case ENQUEUE -> x.invokeEnqueue(thread, object, first);
            case DEQUEUE -> x.invokeDequeue(thread, object);
            case INSERT -> x.invokeInsert(thread, object, first);
            case REMOVE -> x.invokeRemove(thread, object, first);
            default -> x.invokeContains(thread, object, first);
        };
    }

    /** The object of withAllObjects that has the type which the kind requires. */
    private static int fittingObject(int kind) {
        return kind <= COMPARE_AND_SET ? 0 : kind <= ADD ? 1 : kind <= DEQUEUE ? 2 : 3;
    }

    private static boolean hasArgument(int kind) {
        return kind != READ && kind != GET && kind != DEQUEUE;
    }

    private static void full(LinearizabilityChecker x, int kind, int thread, int object, int first, int result) {
        invoke(x, kind, thread, object, first, 0);
        x.respond(thread, result);
    }

    private static void type(LinearizabilityChecker x, String text) {
        for (int index = 0; index < text.length(); index++) {
            due("appendCharacter of " + text + " at " + index, x.appendCharacter(text.charAt(index)), index + 1);
        }
    }

    private static int parse(LinearizabilityChecker x, String text) {
        type(x, text);
        return x.parseText();
    }

    // Promise 1
    private static void newObject() {
        LinearizabilityChecker x = new LinearizabilityChecker();
        due("1 objectCount", x.objectCount(), 0);
        due("1 eventCount", x.eventCount(), 0);
        due("1 operationCount", x.operationCount(), 0);
        due("1 orderSize", x.orderSize(), 0);
        due("1 clearText", x.clearText(), 0);
        due("1 restoreSnapshot", x.restoreSnapshot(), NO_SNAPSHOT);
        due("1 undo", x.undo(), NOTHING_TO_UNDO);
        due("1 typeOf(0)", x.typeOf(0), NO_SUCH_OBJECT);
        due("1 kindOf(0)", x.kindOf(0), NO_SUCH_OPERATION);
        due("1 respond(0, 0)", x.respond(0, 0), THREAD_IDLE);
        LinearizabilityChecker other = new LinearizabilityChecker();
        other.createQueue();
        due("1 two checkers share nothing", x.objectCount(), 0);
    }

    // Promise 2
    private static void createRegister() {
        LinearizabilityChecker x = new LinearizabilityChecker();
        for (int value : VALUES_OUT_OF_RANGE) {
            due("2 createRegister(" + value + ")", x.createRegister(value), BAD_VALUE);
        }
        due("2 nothing was created", x.objectCount(), 0);
        due("2 createRegister(0)", x.createRegister(0), 0);
        due("2 createRegister(99)", x.createRegister(99), 1);
        due("2 typeOf(1)", x.typeOf(1), 0);
        x.invokeRead(0, 0);
        x.invokeRead(1, 1);
        due("2 initial value 0", x.canRespond(0, 0), 1);
        due("2 initial value 99", x.canRespond(1, 99), 1);
        due("2 not another value", x.canRespond(1, 0), 0);
        due("2 created beside events", x.createRegister(7), 2);
        due("2 createRegister(8)", x.createRegister(8), 3);
        due("2 full", x.createRegister(8), FULL);
        due("2 bad value before full", x.createRegister(100), BAD_VALUE);
        due("2 objectCount", x.objectCount(), 4);
    }

    // Promise 3
    private static void createCounter() {
        LinearizabilityChecker x = new LinearizabilityChecker();
        due("3 createCounter(-100)", x.createCounter(-100), BAD_VALUE);
        due("3 createCounter(100)", x.createCounter(100), BAD_VALUE);
        due("3 createCounter(MIN)", x.createCounter(Integer.MIN_VALUE), BAD_VALUE);
        due("3 createCounter(MAX)", x.createCounter(Integer.MAX_VALUE), BAD_VALUE);
        due("3 createCounter(-99)", x.createCounter(-99), 0);
        due("3 createCounter(99)", x.createCounter(99), 1);
        due("3 typeOf(0)", x.typeOf(0), 1);
        x.invokeGet(0, 0);
        x.invokeGet(1, 1);
        due("3 initial value -99", x.canRespond(0, -99), 1);
        due("3 initial value 99", x.canRespond(1, 99), 1);
        due("3 createCounter(0)", x.createCounter(0), 2);
        due("3 createCounter(1)", x.createCounter(1), 3);
        due("3 full", x.createCounter(1), FULL);
        due("3 bad value before full", x.createCounter(-100), BAD_VALUE);
    }

    // Promise 4
    private static void createQueue() {
        LinearizabilityChecker x = new LinearizabilityChecker();
        for (int number = 0; number < 4; number++) {
            due("4 createQueue", x.createQueue(), number);
            due("4 typeOf", x.typeOf(number), 2);
        }
        due("4 full", x.createQueue(), FULL);
        due("4 objectCount", x.objectCount(), 4);
        x.invokeDequeue(0, 3);
        due("4 empty at first", x.canRespond(0, -1), 1);
        due("4 only empty at first", x.countResponses(0), 1);
    }

    // Promise 5
    private static void createSet() {
        LinearizabilityChecker x = new LinearizabilityChecker();
        for (int number = 0; number < 4; number++) {
            due("5 createSet", x.createSet(), number);
            due("5 typeOf", x.typeOf(number), 3);
        }
        due("5 full", x.createSet(), FULL);
        due("5 objectCount", x.objectCount(), 4);
        x.invokeContains(0, 3, 0);
        due("5 empty at first", x.canRespond(0, 0), 1);
        due("5 only empty at first", x.canRespond(0, 1), 0);
    }

    // Promise 6
    private static void objectCount() {
        LinearizabilityChecker x = new LinearizabilityChecker();
        x.createRegister(1);
        due("6 one", x.objectCount(), 1);
        x.createCounter(1);
        due("6 two", x.objectCount(), 2);
        x.createQueue();
        due("6 three", x.objectCount(), 3);
        x.createSet();
        due("6 four", x.objectCount(), 4);
        x.createSet();
        due("6 still four", x.objectCount(), 4);
    }

    // Promise 7
    private static void typeOf() {
        LinearizabilityChecker x = new LinearizabilityChecker();
        x.createSet();
        x.createQueue();
        due("7 set", x.typeOf(0), 3);
        due("7 queue", x.typeOf(1), 2);
        due("7 not yet", x.typeOf(2), NO_SUCH_OBJECT);
        x.createCounter(0);
        x.createRegister(0);
        due("7 counter", x.typeOf(2), 1);
        due("7 register", x.typeOf(3), 0);
        for (int number : NUMBERS_OUT_OF_RANGE) {
            due("7 typeOf(" + number + ")", x.typeOf(number), NO_SUCH_OBJECT);
        }
    }

    // Promise 8
    private static void reset() {
        LinearizabilityChecker x = withAllObjects();
        due("8 no events", x.reset(), 0);
        due("8 no objects", x.objectCount(), 0);
        x.createRegister(4);
        x.invokeRead(0, 0);
        x.respond(0, 4);
        x.invokeRead(0, 0);
        x.crash(1);
        x.appendToOrder(0);
        x.saveSnapshot();
        x.appendCharacter('0');
        due("8 events removed", x.reset(), 4);
        due("8 eventCount", x.eventCount(), 0);
        due("8 operationCount", x.operationCount(), 0);
        due("8 objectCount", x.objectCount(), 0);
        due("8 orderSize", x.orderSize(), 0);
        due("8 kindOf", x.kindOf(0), NO_SUCH_OPERATION);
        due("8 undo", x.undo(), NOTHING_TO_UNDO);
        due("8 the text is kept", x.clearText(), 1);
        due("8 new object", x.createSet(), 0);
        due("8 thread no longer busy", x.invokeContains(0, 0, 1), 0);
        due("8 thread no longer crashed", x.invokeContains(1, 0, 1), 1);
        due("8 a new set is empty", x.canRespond(0, 1), 0);
        due("8 the snapshot is kept", x.restoreSnapshot(), 4);
        due("8 the snapshot's objects", x.typeOf(0), 0);
    }

    // Promises 9 to 18: what all invocations share
    private static void invocationErrors() {
        for (int kind = READ; kind <= CONTAINS; kind++) {
            String name = (9 + kind) + " kind " + kind + " ";
            LinearizabilityChecker x = withAllObjects();
            int object = fittingObject(kind);
            for (int number : NUMBERS_OUT_OF_RANGE) {
                due(name + "thread " + number, invoke(x, kind, number, object, 1, 1), NO_SUCH_THREAD);
                due(name + "object " + number, invoke(x, kind, 0, number, 1, 1), NO_SUCH_OBJECT);
            }
            for (int other = 0; other < 4; other++) {
                if (other != object) {
                    due(name + "type of " + other, invoke(x, kind, 0, other, 1, 1), WRONG_TYPE);
                }
            }
            due(name + "nothing was appended", x.eventCount(), 0);
            due(name + "first", invoke(x, kind, 0, object, 0, 99), 0);
            due(name + "busy", invoke(x, kind, 0, object, 0, 0), THREAD_BUSY);
            due(name + "second", invoke(x, kind, 3, object, 99, 0), 1);
            x.crash(3);
            due(name + "crashed before busy", invoke(x, kind, 3, object, 0, 0), THREAD_CRASHED);
            x.crash(2);
            due(name + "crashed", invoke(x, kind, 2, object, 0, 0), THREAD_CRASHED);
            due(name + "eventCount", x.eventCount(), 4);
            due(name + "kindOf", x.kindOf(1), kind);
            due(name + "threadOf", x.threadOf(1), 3);
            due(name + "objectOf", x.objectOf(1), object);
        }
    }

    // Promises 9 to 18: of several errors the first one is returned
    private static void errorsInTheirOrder() {
        for (int kind = READ; kind <= CONTAINS; kind++) {
            String name = (9 + kind) + " kind " + kind + " ";
            LinearizabilityChecker x = withAllObjects();
            int object = fittingObject(kind);
            int wrongType = (object + 1) % 4;
            invoke(x, kind, 0, object, 0, 0);
            x.crash(1);
            invoke(x, kind, 2, object, 0, 0);
            x.crash(2);
            for (int number = 2; number < 10; number++) {
                invoke(x, GET, 3, 1, 0, 0);
                x.respond(3, 0);
            }
            due(name + "full", invoke(x, kind, 3, object, 0, 0), FULL);
            due(name + "busy before full", invoke(x, kind, 0, object, 0, 0), THREAD_BUSY);
            due(name + "crashed before full", invoke(x, kind, 1, object, 0, 0), THREAD_CRASHED);
            due(name + "crashed before busy", invoke(x, kind, 2, object, 0, 0), THREAD_CRASHED);
            if (hasArgument(kind)) {
                due(name + "value before crashed", invoke(x, kind, 2, object, 100, 0), BAD_VALUE);
                due(name + "value before full", invoke(x, kind, 3, object, 100, 0), BAD_VALUE);
                due(name + "type before value", invoke(x, kind, 3, wrongType, 100, 0), WRONG_TYPE);
            }
            due(name + "type before crashed", invoke(x, kind, 1, wrongType, 0, 0), WRONG_TYPE);
            due(name + "object before crashed", invoke(x, kind, 1, 4, 100, 0), NO_SUCH_OBJECT);
            due(name + "thread before object", invoke(x, kind, 4, 4, 100, 0), NO_SUCH_THREAD);
            due(name + "operationCount", x.operationCount(), 10);
        }
    }

    // Promise 9
    private static void invokeRead() {
        LinearizabilityChecker x = withRegister(42);
        due("9 invokeRead", x.invokeRead(0, 0), 0);
        due("9 returns the value", x.canRespond(0, 42), 1);
        due("9 returns nothing else", x.countResponses(0), 1);
        due("9 respond", x.respond(0, 42), 0);
        due("9 invokeRead again", x.invokeRead(0, 0), 1);
        due("9 a read changes nothing", x.canRespond(0, 42), 1);
    }

    // Promise 10
    private static void invokeWrite() {
        LinearizabilityChecker x = withRegister(42);
        for (int value : VALUES_OUT_OF_RANGE) {
            due("10 invokeWrite of " + value, x.invokeWrite(0, 0, value), BAD_VALUE);
        }
        due("10 invokeWrite", x.invokeWrite(0, 0, 99), 0);
        due("10 returns 0", x.canRespond(0, 0), 1);
        x.respond(0, 0);
        x.invokeRead(1, 0);
        due("10 stores", x.canRespond(1, 99), 1);
        due("10 replaces", x.canRespond(1, 42), 0);
    }

    // Promise 11
    private static void invokeCompareAndSet() {
        LinearizabilityChecker x = withRegister(42);
        for (int value : VALUES_OUT_OF_RANGE) {
            due("11 expected " + value, x.invokeCompareAndSet(0, 0, value, 0), BAD_VALUE);
            due("11 update " + value, x.invokeCompareAndSet(0, 0, 0, value), BAD_VALUE);
        }
        due("11 edges", x.invokeCompareAndSet(0, 0, 0, 99), 0);
        due("11 returns 0", x.canRespond(0, 0), 1);
        due("11 not 1", x.canRespond(0, 1), 0);
        x.respond(0, 0);
        due("11 equal", x.invokeCompareAndSet(0, 0, 42, 0), 1);
        due("11 returns 1", x.canRespond(0, 1), 1);
        due("11 not 0", x.canRespond(0, 0), 0);
        x.respond(0, 1);
        x.invokeRead(0, 0);
        due("11 stores the update", x.canRespond(0, 0), 1);
        due("11 the failed one stored nothing", x.countResponses(0), 1);
        LinearizabilityChecker y = withRegister(1);
        due("11 99 to 0", y.invokeCompareAndSet(0, 0, 99, 0), 0);
        y.respond(0, 0);
        y.invokeRead(0, 0);
        due("11 unchanged", y.canRespond(0, 1), 1);
    }

    // Promise 12
    private static void invokeGet() {
        LinearizabilityChecker x = new LinearizabilityChecker();
        x.createCounter(-5);
        due("12 invokeGet", x.invokeGet(2, 0), 0);
        due("12 returns the value", x.canRespond(2, -5), 1);
        due("12 returns nothing else", x.countResponses(2), 1);
        x.respond(2, -5);
        x.invokeGet(2, 0);
        due("12 a get changes nothing", x.canRespond(2, -5), 1);
    }

    // Promise 13
    private static void invokeAdd() {
        LinearizabilityChecker x = new LinearizabilityChecker();
        x.createCounter(10);
        due("13 delta -100", x.invokeAdd(0, 0, -100), BAD_VALUE);
        due("13 delta 100", x.invokeAdd(0, 0, 100), BAD_VALUE);
        due("13 delta MIN", x.invokeAdd(0, 0, Integer.MIN_VALUE), BAD_VALUE);
        due("13 delta MAX", x.invokeAdd(0, 0, Integer.MAX_VALUE), BAD_VALUE);
        due("13 delta -99", x.invokeAdd(0, 0, -99), 0);
        due("13 returns the value before", x.canRespond(0, 10), 1);
        due("13 not the value after", x.canRespond(0, -89), 0);
        x.respond(0, 10);
        due("13 delta 99", x.invokeAdd(0, 0, 99), 1);
        due("13 added", x.canRespond(0, -89), 1);
        x.respond(0, -89);
        x.invokeGet(0, 0);
        due("13 added again", x.canRespond(0, 10), 1);
    }

    // Promise 14
    private static void invokeEnqueue() {
        LinearizabilityChecker x = new LinearizabilityChecker();
        x.createQueue();
        for (int value : VALUES_OUT_OF_RANGE) {
            due("14 invokeEnqueue of " + value, x.invokeEnqueue(0, 0, value), BAD_VALUE);
        }
        due("14 invokeEnqueue", x.invokeEnqueue(0, 0, 99), 0);
        due("14 returns 0", x.canRespond(0, 0), 1);
        x.respond(0, 0);
        due("14 the same again", x.invokeEnqueue(0, 0, 0), 1);
        x.respond(0, 0);
        x.invokeDequeue(0, 0);
        due("14 adds at the tail", x.canRespond(0, 99), 1);
        due("14 not at the head", x.canRespond(0, 0), 0);
    }

    // Promise 15
    private static void invokeDequeue() {
        LinearizabilityChecker x = new LinearizabilityChecker();
        x.createQueue();
        full(x, DEQUEUE, 0, 0, 0, -1);
        full(x, ENQUEUE, 0, 0, 5, 0);
        full(x, ENQUEUE, 0, 0, 5, 0);
        full(x, ENQUEUE, 0, 0, 6, 0);
        full(x, DEQUEUE, 0, 0, 0, 5);
        full(x, DEQUEUE, 0, 0, 0, 5);
        full(x, DEQUEUE, 0, 0, 0, 6);
        full(x, DEQUEUE, 0, 0, 0, -1);
        due("15 first in, first out", x.isLinearizable(), 1);
        full(x, ENQUEUE, 0, 0, 7, 0);
        x.invokeDequeue(0, 0);
        due("15 after it was empty", x.canRespond(0, 7), 1);
        due("15 nothing else", x.countResponses(0), 1);
    }

    // Promise 16
    private static void invokeInsert() {
        LinearizabilityChecker x = new LinearizabilityChecker();
        x.createSet();
        for (int value : VALUES_OUT_OF_RANGE) {
            due("16 invokeInsert of " + value, x.invokeInsert(0, 0, value), BAD_VALUE);
        }
        due("16 invokeInsert", x.invokeInsert(0, 0, 99), 0);
        due("16 new", x.canRespond(0, 1), 1);
        due("16 not 0", x.canRespond(0, 0), 0);
        x.respond(0, 1);
        x.invokeInsert(0, 0, 99);
        due("16 twice", x.canRespond(0, 0), 1);
        due("16 twice is not 1", x.canRespond(0, 1), 0);
        x.respond(0, 0);
        x.invokeInsert(0, 0, 35);
        due("16 another one is new", x.canRespond(0, 1), 1);
    }

    // Promise 17
    private static void invokeRemove() {
        LinearizabilityChecker x = new LinearizabilityChecker();
        x.createSet();
        for (int value : VALUES_OUT_OF_RANGE) {
            due("17 invokeRemove of " + value, x.invokeRemove(0, 0, value), BAD_VALUE);
        }
        due("17 invokeRemove", x.invokeRemove(0, 0, 0), 0);
        due("17 not there", x.canRespond(0, 0), 1);
        due("17 not 1", x.canRespond(0, 1), 0);
        x.respond(0, 0);
        full(x, INSERT, 0, 0, 0, 1);
        x.invokeRemove(0, 0, 0);
        due("17 there", x.canRespond(0, 1), 1);
        due("17 there is not 0", x.canRespond(0, 0), 0);
        x.respond(0, 1);
        x.invokeContains(0, 0, 0);
        due("17 removed", x.canRespond(0, 0), 1);
        due("17 gone", x.canRespond(0, 1), 0);
    }

    // Promise 18
    private static void invokeContains() {
        LinearizabilityChecker x = new LinearizabilityChecker();
        x.createSet();
        for (int value : VALUES_OUT_OF_RANGE) {
            due("18 invokeContains of " + value, x.invokeContains(0, 0, value), BAD_VALUE);
        }
        full(x, CONTAINS, 0, 0, 99, 0);
        full(x, INSERT, 0, 0, 99, 1);
        full(x, CONTAINS, 0, 0, 99, 1);
        full(x, CONTAINS, 0, 0, 98, 0);
        full(x, CONTAINS, 0, 0, 99, 1);
        full(x, REMOVE, 0, 0, 99, 1);
        full(x, CONTAINS, 0, 0, 99, 0);
        due("18 answers", x.isLinearizable(), 1);
        due("18 contains changes nothing", x.countLinearizations(), 1);
    }

    // Promise 19
    private static void respond() {
        LinearizabilityChecker x = withRegister(0);
        for (int number : NUMBERS_OUT_OF_RANGE) {
            due("19 thread " + number, x.respond(number, 0), NO_SUCH_THREAD);
        }
        due("19 idle", x.respond(0, 0), THREAD_IDLE);
        due("19 idle before value", x.respond(0, 5000), THREAD_IDLE);
        x.invokeRead(3, 0);
        x.invokeRead(0, 0);
        due("19 a value out of range", x.respond(0, 100), BAD_VALUE);
        due("19 nothing was appended", x.eventCount(), 2);
        due("19 the result need not be correct", x.respond(0, 55), 1);
        due("19 idle again", x.respond(0, 55), THREAD_IDLE);
        due("19 the other one", x.respond(3, 0), 0);
        due("19 eventCount", x.eventCount(), 4);
        x.invokeRead(1, 0);
        x.crash(1);
        due("19 crashed", x.respond(1, 0), THREAD_CRASHED);
        due("19 crashed before value", x.respond(1, 100), THREAD_CRASHED);
        x.crash(2);
        due("19 crashed before idle", x.respond(2, 0), THREAD_CRASHED);
        due("19 still pending", x.responseTime(2), NONE);
    }

    // Promise 19: the ranges of results
    private static void respondRanges() {
        int[] lowest = {0, 0, 0, -999, -999, 0, -1, 0, 0, 0};
        int[] highest = {99, 0, 1, 999, 999, 0, 99, 1, 1, 1};
        for (int kind = READ; kind <= CONTAINS; kind++) {
            LinearizabilityChecker x = withAllObjects();
            invoke(x, kind, 1, fittingObject(kind), 0, 0);
            String name = "19 kind " + kind + " ";
            due(name + "below", x.respond(1, lowest[kind] - 1), BAD_VALUE);
            due(name + "above", x.respond(1, highest[kind] + 1), BAD_VALUE);
            due(name + "MIN", x.respond(1, Integer.MIN_VALUE), BAD_VALUE);
            due(name + "MAX", x.respond(1, Integer.MAX_VALUE), BAD_VALUE);
            due(name + "lowest", x.respond(1, lowest[kind]), 0);
            due(name + "lowest recorded", x.resultOf(0), 1000 + lowest[kind]);
            x.undo();
            due(name + "highest", x.respond(1, highest[kind]), 0);
            due(name + "highest recorded", x.resultOf(0), 1000 + highest[kind]);
        }
    }

    // Promise 20
    private static void crash() {
        LinearizabilityChecker x = withRegister(0);
        for (int number : NUMBERS_OUT_OF_RANGE) {
            due("20 thread " + number, x.crash(number), NO_SUCH_THREAD);
        }
        due("20 an idle thread", x.crash(2), 0);
        due("20 again", x.crash(2), THREAD_CRASHED);
        x.invokeRead(0, 0);
        due("20 a busy thread", x.crash(0), 2);
        due("20 its operation is pending", x.resultOf(0), NONE);
        due("20 eventCount", x.eventCount(), 3);
        due("20 thread 1", x.crash(1), 3);
        due("20 thread 3", x.crash(3), 4);
        due("20 eventCount", x.eventCount(), 5);
        due("20 still linearizable", x.isLinearizable(), 1);
    }

    // Promise 21
    private static void undo() {
        LinearizabilityChecker x = withRegister(3);
        due("21 no event", x.undo(), NOTHING_TO_UNDO);
        x.invokeRead(1, 0);
        x.respond(1, 3);
        x.invokeWrite(1, 0, 4);
        x.crash(1);
        x.saveSnapshot();
        x.appendCharacter('x');
        due("21 a crash", x.undo(), 3);
        due("21 no longer crashed, but busy", x.invokeRead(1, 0), THREAD_BUSY);
        due("21 an invocation", x.undo(), 2);
        due("21 its operation is removed", x.kindOf(1), NO_SUCH_OPERATION);
        due("21 operationCount", x.operationCount(), 1);
        due("21 the thread is idle", x.respond(1, 0), THREAD_IDLE);
        due("21 a response", x.undo(), 1);
        due("21 pending again", x.responseTime(0), NONE);
        due("21 no result", x.resultOf(0), NONE);
        due("21 it can respond again", x.respond(1, 9), 0);
        due("21 with another result", x.resultOf(0), 1009);
        due("21 the response again", x.undo(), 1);
        due("21 the first event", x.undo(), 0);
        due("21 nothing left", x.undo(), NOTHING_TO_UNDO);
        due("21 objects stay", x.objectCount(), 1);
        due("21 the text stays", x.clearText(), 1);
        due("21 the snapshot stays", x.restoreSnapshot(), 4);
        due("21 of a restored crash", x.undo(), 3);
        due("21 the number is given again", x.undo() + x.invokeWrite(1, 0, 6), 3);
    }

    // Promise 22
    private static void eventCount() {
        LinearizabilityChecker x = withAllObjects();
        for (int number = 0; number < 10; number++) {
            x.invokeGet(0, 1);
            due("22 after an invocation", x.eventCount(), 2 * number + 1);
            x.respond(0, 0);
            due("22 after a response", x.eventCount(), 2 * number + 2);
        }
        for (int thread = 0; thread < 4; thread++) {
            due("22 time of a crash", x.crash(thread), 20 + thread);
        }
        due("22 the most", x.eventCount(), 24);
        x.undo();
        due("22 after undo", x.eventCount(), 23);
    }

    // Promise 23
    private static void operationCount() {
        LinearizabilityChecker x = withAllObjects();
        due("23 none", x.operationCount(), 0);
        for (int number = 0; number < 10; number++) {
            due("23 invokeContains", x.invokeContains(number % 4, 3, 0), number);
            due("23 operationCount", x.operationCount(), number + 1);
            x.respond(number % 4, 0);
        }
        due("23 full", x.invokeContains(0, 3, 0), FULL);
        due("23 the most", x.operationCount(), 10);
        x.undo();
        due("23 a response undone", x.operationCount(), 10);
        x.undo();
        due("23 an invocation undone", x.operationCount(), 9);
        due("23 room again", x.invokeContains(0, 3, 0), 9);
    }

    // Promises 24 to 26
    private static void operationData() {
        LinearizabilityChecker x = withAllObjects();
        for (int kind = READ; kind <= CONTAINS; kind++) {
            due("24 invoke", invoke(x, kind, kind % 4, fittingObject(kind), 0, 0), kind);
            x.respond(kind % 4, 0);
        }
        for (int kind = READ; kind <= CONTAINS; kind++) {
            due("24 kindOf(" + kind + ")", x.kindOf(kind), kind);
            due("25 threadOf(" + kind + ")", x.threadOf(kind), kind % 4);
            due("26 objectOf(" + kind + ")", x.objectOf(kind), fittingObject(kind));
        }
        x.undo();
        x.undo();
        for (int number : new int[] {-1, 9, 10, Integer.MIN_VALUE, Integer.MAX_VALUE}) {
            due("24 kindOf(" + number + ")", x.kindOf(number), NO_SUCH_OPERATION);
            due("25 threadOf(" + number + ")", x.threadOf(number), NO_SUCH_OPERATION);
            due("26 objectOf(" + number + ")", x.objectOf(number), NO_SUCH_OPERATION);
            due("27 invocationTime(" + number + ")", x.invocationTime(number), NO_SUCH_OPERATION);
            due("28 responseTime(" + number + ")", x.responseTime(number), NO_SUCH_OPERATION);
            due("29 resultOf(" + number + ")", x.resultOf(number), NO_SUCH_OPERATION);
        }
    }

    // Promise 27
    private static void invocationTime() {
        LinearizabilityChecker x = withAllObjects();
        x.crash(3);
        x.invokeGet(0, 1);
        x.invokeGet(1, 1);
        x.respond(0, 0);
        x.invokeGet(0, 1);
        due("27 after a crash", x.invocationTime(0), 1);
        due("27 next", x.invocationTime(1), 2);
        due("27 after a response", x.invocationTime(2), 4);
    }

    // Promise 28
    private static void responseTime() {
        LinearizabilityChecker x = withAllObjects();
        x.invokeGet(0, 1);
        due("28 pending", x.responseTime(0), NONE);
        x.invokeGet(1, 1);
        x.respond(1, 0);
        x.respond(0, 0);
        due("28 second invoked, first completed", x.responseTime(1), 2);
        due("28 first invoked, second completed", x.responseTime(0), 3);
        x.invokeGet(2, 1);
        x.crash(2);
        due("28 crashed", x.responseTime(2), NONE);
    }

    // Promise 29
    private static void resultOf() {
        LinearizabilityChecker x = withAllObjects();
        x.invokeGet(0, 1);
        due("29 pending", x.resultOf(0), NONE);
        x.respond(0, -999);
        due("29 -999", x.resultOf(0), 1);
        full(x, DEQUEUE, 0, 2, 0, -1);
        due("29 EMPTY", x.resultOf(1), 999);
        full(x, INSERT, 0, 3, 0, 1);
        due("29 1", x.resultOf(2), 1001);
        x.undo();
        due("29 undone", x.resultOf(2), NONE);
    }

    // Promise 30
    private static void precedes() {
        LinearizabilityChecker x = withAllObjects();
        x.invokeGet(0, 1);
        x.invokeGet(1, 1);
        x.respond(0, 0);
        x.invokeGet(2, 1);
        due("30 before", x.precedes(0, 2), 1);
        due("30 after", x.precedes(2, 0), 0);
        due("30 at the same time", x.precedes(0, 1), 0);
        due("30 at the same time", x.precedes(1, 0), 0);
        due("30 a pending one precedes nothing", x.precedes(1, 2), 0);
        due("30 itself", x.precedes(0, 0), 0);
        due("30 no first", x.precedes(3, 0), NO_SUCH_OPERATION);
        due("30 no second", x.precedes(0, 3), NO_SUCH_OPERATION);
        due("30 negative first", x.precedes(-1, 0), NO_SUCH_OPERATION);
        due("30 negative second", x.precedes(0, -1), NO_SUCH_OPERATION);
        due("30 neither", x.precedes(10, 10), NO_SUCH_OPERATION);
        x.respond(1, 0);
        due("30 a later response changes nothing", x.precedes(1, 2), 0);
        x.undo();
        x.undo();
        x.undo();
        x.invokeGet(2, 1);
        due("30 after undo the first is pending", x.precedes(0, 2), 0);
    }

    // Promise 31
    private static void maxPending() {
        LinearizabilityChecker x = withAllObjects();
        due("31 empty", x.maxPending(), 0);
        x.crash(3);
        due("31 a crash alone", x.maxPending(), 0);
        full(x, GET, 0, 1, 0, 0);
        full(x, GET, 1, 1, 0, 0);
        due("31 one after the other", x.maxPending(), 1);
        x.invokeGet(0, 1);
        x.crash(0);
        full(x, GET, 1, 1, 0, 0);
        due("31 a crashed one is counted", x.maxPending(), 2);
        x.invokeGet(1, 1);
        x.invokeGet(2, 1);
        due("31 three", x.maxPending(), 3);
        x.respond(1, 0);
        x.respond(2, 0);
        due("31 the most is kept", x.maxPending(), 3);
        LinearizabilityChecker y = withAllObjects();
        for (int thread = 0; thread < 4; thread++) {
            y.invokeGet(thread, 1);
        }
        due("31 four", y.maxPending(), 4);
    }

    // Promise 32
    private static void longestChain() {
        LinearizabilityChecker x = withAllObjects();
        due("32 none", x.longestChain(), 0);
        x.crash(3);
        due("32 no operation", x.longestChain(), 0);
        x.invokeGet(0, 1);
        due("32 a pending one", x.longestChain(), 1);
        full(x, GET, 1, 1, 0, 0);
        due("32 two at the same time", x.longestChain(), 1);
        full(x, GET, 1, 1, 0, 0);
        full(x, GET, 2, 1, 0, 0);
        due("32 of several threads", x.longestChain(), 3);
        x.respond(0, 0);
        x.invokeGet(0, 1);
        due("32 with a pending end", x.longestChain(), 4);
        LinearizabilityChecker y = withAllObjects();
        for (int number = 0; number < 10; number++) {
            full(y, GET, number % 4, 1, 0, 0);
        }
        due("32 ten", y.longestChain(), 10);
    }

    // Promise 33
    private static void isLinearizable() {
        LinearizabilityChecker x = withRegister(0);
        due("33 empty", x.isLinearizable(), 1);
        x.invokeWrite(0, 0, 1);
        full(x, READ, 1, 0, 0, 1);
        due("33 a pending write took effect", x.isLinearizable(), 1);
        full(x, READ, 1, 0, 0, 0);
        due("33 and cannot go away", x.isLinearizable(), 0);
        LinearizabilityChecker y = withRegister(0);
        full(y, READ, 1, 0, 0, 1);
        y.invokeWrite(0, 0, 1);
        due("33 a read of the future", y.isLinearizable(), 0);
        LinearizabilityChecker z = new LinearizabilityChecker();
        z.createQueue();
        z.createQueue();
        full(z, ENQUEUE, 0, 1, 7, 0);
        full(z, DEQUEUE, 1, 0, 0, -1);
        due("33 two objects", z.isLinearizable(), 1);
        full(z, DEQUEUE, 1, 0, 0, 7);
        due("33 of the other object", z.isLinearizable(), 0);
        takenBack();
    }

    /** The smallest sequences fail at their ends, after each kind of operation has changed its object. */
    private static void takenBack() {
        for (int kind = READ; kind <= CONTAINS; kind++) {
            LinearizabilityChecker x = withAllObjects();
            int object = fittingObject(kind);
            full(x, INSERT, 3, 3, 5, 1);
            full(x, ENQUEUE, 3, 2, 5, 0);
            invoke(x, kind, 0, object, kind == COMPARE_AND_SET ? 0 : 5, 7);
            x.invokeRead(1, 0);
            x.invokeGet(2, 1);
            due("36 kind " + kind + " beside two that change nothing", x.countLinearizations(), 16);
            x.respond(1, 0);
            x.respond(2, 0);
            x.invokeContains(1, 3, 5);
            x.respond(1, 1);
            x.invokeDequeue(2, 2);
            x.respond(2, 5);
            due("33 kind " + kind + " may be left out", x.isLinearizable(), 1);
            due("38 kind " + kind + " begins with the insert", x.firstLinearizationAt(0), 0);
            due("41 kind " + kind, x.countResponses(0), 1);
        }
    }

    // Promise 34
    private static void isObjectLinearizable() {
        LinearizabilityChecker x = withAllObjects();
        due("34 without operations", x.isObjectLinearizable(2), 1);
        full(x, WRITE, 0, 0, 5, 0);
        full(x, INSERT, 0, 3, 5, 1);
        full(x, READ, 1, 0, 0, 0);
        due("34 a stale read", x.isObjectLinearizable(0), 0);
        due("34 another object", x.isObjectLinearizable(3), 1);
        due("34 the whole", x.isLinearizable(), 0);
        for (int number : NUMBERS_OUT_OF_RANGE) {
            due("34 object " + number, x.isObjectLinearizable(number), NO_SUCH_OBJECT);
        }
        LinearizabilityChecker y = withRegister(0);
        due("34 no second object", y.isObjectLinearizable(1), NO_SUCH_OBJECT);
        y.createRegister(9);
        full(y, READ, 0, 1, 0, 9);
        due("34 its own initial value", y.isObjectLinearizable(1), 1);
        y.invokeWrite(2, 1, 3);
        full(y, READ, 0, 1, 0, 3);
        due("34 with a pending operation", y.isObjectLinearizable(1), 1);
        full(y, READ, 0, 1, 0, 9);
        due("34 the times are kept", y.isObjectLinearizable(1), 0);
    }

    // Promise 35
    private static void isSequentiallyConsistent() {
        LinearizabilityChecker x = withRegister(0);
        due("35 empty", x.isSequentiallyConsistent(), 1);
        full(x, WRITE, 0, 0, 5, 0);
        full(x, READ, 1, 0, 0, 0);
        due("35 a stale read of another thread", x.isSequentiallyConsistent(), 1);
        full(x, READ, 1, 0, 0, 5);
        full(x, READ, 0, 0, 0, 0);
        due("35 a stale read of the same thread", x.isSequentiallyConsistent(), 0);
        // Each object alone would allow it, both together do not.
        LinearizabilityChecker y = new LinearizabilityChecker();
        y.createQueue();
        y.createQueue();
        full(y, ENQUEUE, 0, 0, 1, 0);
        full(y, ENQUEUE, 1, 1, 2, 0);
        full(y, DEQUEUE, 0, 1, 0, -1);
        due("35 one order", y.isSequentiallyConsistent(), 1);
        full(y, DEQUEUE, 1, 0, 0, -1);
        due("35 no order of all threads", y.isSequentiallyConsistent(), 0);
        LinearizabilityChecker z = withRegister(0);
        full(z, READ, 1, 0, 0, 3);
        due("35 no write yet", z.isSequentiallyConsistent(), 0);
        z.invokeWrite(0, 0, 3);
        due("35 a later pending write", z.isSequentiallyConsistent(), 1);
    }

    // Promise 36
    private static void countLinearizations() {
        LinearizabilityChecker x = withRegister(0);
        due("36 the empty sequence", x.countLinearizations(), 1);
        x.invokeWrite(0, 0, 1);
        due("36 with or without", x.countLinearizations(), 2);
        x.invokeWrite(1, 0, 2);
        due("36 two pending", x.countLinearizations(), 5);
        x.invokeWrite(2, 0, 3);
        due("36 three pending", x.countLinearizations(), 16);
        x.invokeWrite(3, 0, 4);
        due("36 four pending", x.countLinearizations(), 65);
        x.respond(3, 0);
        due("36 one of them completed", x.countLinearizations(), 49);
        x.invokeRead(3, 0);
        x.respond(3, 5);
        due("36 not linearizable", x.countLinearizations(), 0);
        LinearizabilityChecker y = withRegister(0);
        for (int thread = 0; thread < 4; thread++) {
            y.invokeWrite(thread, 0, thread);
        }
        for (int number = 4; number < 10; number++) {
            y.respond(number % 4, 0);
            y.invokeWrite(number % 4, 0, number);
        }
        due("36 ten operations", y.countLinearizations(), 21978);
    }

    // Promises 37 and 38
    private static void firstLinearization() {
        LinearizabilityChecker x = withRegister(0);
        due("37 empty", x.firstLinearizationLength(), 0);
        due("38 empty", x.firstLinearizationAt(0), NONE);
        x.invokeWrite(0, 0, 1);
        due("37 a prefix is smaller", x.firstLinearizationLength(), 0);
        x.invokeRead(1, 0);
        x.respond(1, 0);
        due("37 what is pending may come first", x.firstLinearizationLength(), 1);
        due("38 the read alone", x.firstLinearizationAt(0), 1);
        due("38 behind the end", x.firstLinearizationAt(1), NONE);
        due("38 before the beginning", x.firstLinearizationAt(-1), NONE);
        due("38 MIN", x.firstLinearizationAt(Integer.MIN_VALUE), NONE);
        due("38 MAX", x.firstLinearizationAt(Integer.MAX_VALUE), NONE);
        x.respond(0, 0);
        due("38 the write second, asked first", x.firstLinearizationAt(1), 0);
        due("38 the read first", x.firstLinearizationAt(0), 1);
        due("37 both completed", x.firstLinearizationLength(), 2);
        full(x, READ, 2, 0, 0, 0);
        due("37 not linearizable", x.firstLinearizationLength(), NONE);
        due("38 not linearizable", x.firstLinearizationAt(0), NONE);
        LinearizabilityChecker y = withRegister(0);
        y.invokeWrite(0, 0, 1);
        y.invokeWrite(1, 0, 2);
        y.respond(1, 0);
        due("37 a smaller number makes it longer", y.firstLinearizationLength(), 2);
        due("38 the pending one first", y.firstLinearizationAt(0), 0);
        due("38 the completed one second", y.firstLinearizationAt(1), 1);
    }

    // Promise 39
    private static void firstViolation() {
        LinearizabilityChecker x = withRegister(0);
        due("39 empty", x.firstViolation(), NONE);
        x.crash(3);
        full(x, WRITE, 0, 0, 5, 0);
        full(x, READ, 0, 0, 0, 5);
        due("39 linearizable", x.firstViolation(), NONE);
        full(x, READ, 0, 0, 0, 4);
        due("39 at the end", x.firstViolation(), 7);
        x.invokeWrite(1, 0, 4);
        x.crash(0);
        full(x, READ, 2, 0, 0, 77);
        due("39 the first one stays", x.firstViolation(), 7);
        LinearizabilityChecker y = withRegister(0);
        y.invokeWrite(0, 0, 5);
        full(y, READ, 1, 0, 0, 5);
        y.respond(0, 0);
        due("39 the write is pending in the prefix", y.firstViolation(), NONE);
        full(y, READ, 1, 0, 0, 0);
        due("39 in the whole", y.firstViolation(), 6);
        LinearizabilityChecker z = withRegister(0);
        full(z, READ, 0, 0, 0, 1);
        due("39 the first response", z.firstViolation(), 2);
    }

    // Promise 40
    private static void canRespond() {
        LinearizabilityChecker x = withAllObjects();
        for (int number : NUMBERS_OUT_OF_RANGE) {
            due("40 thread " + number, x.canRespond(number, 0), NO_SUCH_THREAD);
        }
        due("40 idle", x.canRespond(0, 0), THREAD_IDLE);
        due("40 idle before value", x.canRespond(0, 5000), THREAD_IDLE);
        x.invokeEnqueue(0, 2, 8);
        x.invokeDequeue(1, 2);
        x.appendToOrder(1);
        due("40 value", x.canRespond(1, -2), BAD_VALUE);
        due("40 value", x.canRespond(1, 100), BAD_VALUE);
        due("40 empty", x.canRespond(1, -1), 1);
        due("40 8", x.canRespond(1, 8), 1);
        due("40 9", x.canRespond(1, 9), 0);
        due("40 enqueue", x.canRespond(0, 0), 1);
        due("40 nothing was appended", x.eventCount(), 2);
        due("40 still pending", x.responseTime(1), NONE);
        due("40 the order stays", x.orderSize(), 1);
        x.crash(1);
        due("40 crashed", x.canRespond(1, 8), THREAD_CRASHED);
        due("40 crashed before value", x.canRespond(1, 100), THREAD_CRASHED);
        full(x, GET, 2, 1, 0, 5);
        due("40 not linearizable already", x.canRespond(0, 0), 0);
    }

    // Promise 41
    private static void countResponses() {
        LinearizabilityChecker x = withAllObjects();
        for (int number : NUMBERS_OUT_OF_RANGE) {
            due("41 thread " + number, x.countResponses(number), NO_SUCH_THREAD);
        }
        due("41 idle", x.countResponses(0), THREAD_IDLE);
        x.invokeAdd(0, 1, 1);
        x.invokeAdd(1, 1, 1);
        x.invokeGet(2, 1);
        due("41 equal sums count once", x.countResponses(2), 3);
        due("41 add", x.countResponses(0), 2);
        x.invokeInsert(3, 3, 1);
        due("41 insert", x.countResponses(3), 1);
        x.crash(3);
        due("41 crashed", x.countResponses(3), THREAD_CRASHED);
        x.respond(1, 5);
        due("41 not linearizable", x.countResponses(2), 0);
        LinearizabilityChecker y = new LinearizabilityChecker();
        y.createCounter(99);
        for (int number = 1; number <= 7; number++) {
            full(y, ADD, 0, 0, 99, 99 * number);
        }
        y.invokeAdd(0, 0, 99);
        y.invokeAdd(1, 0, 99);
        y.invokeGet(2, 0);
        due("41 792, 891 and 990", y.countResponses(2), 3);
        due("41 the largest that there can be", y.canRespond(2, 990), 1);
        due("41 the sum of ten", y.canRespond(2, 999), 0);
        LinearizabilityChecker z = withRegister(0);
        z.invokeWrite(0, 0, 1);
        z.invokeWrite(1, 0, 2);
        z.invokeWrite(2, 0, 3);
        z.invokeRead(3, 0);
        due("41 read", z.countResponses(3), 4);
        due("41 write", z.countResponses(2), 1);
        due("41 nothing was appended", z.eventCount(), 4);
        z.respond(2, 0);
        due("41 it may come before", z.countResponses(3), 4);
        z.respond(3, 3);
        z.invokeRead(3, 0);
        due("41 it cannot come back to 0", z.countResponses(3), 3);
    }

    // Promise 42
    private static void appendToOrder() {
        LinearizabilityChecker x = withAllObjects();
        due("42 no operation", x.appendToOrder(0), NO_SUCH_OPERATION);
        x.invokeGet(0, 1);
        x.invokeGet(1, 1);
        due("42 negative", x.appendToOrder(-1), NO_SUCH_OPERATION);
        due("42 too large", x.appendToOrder(2), NO_SUCH_OPERATION);
        due("42 MAX", x.appendToOrder(Integer.MAX_VALUE), NO_SUCH_OPERATION);
        due("42 first", x.appendToOrder(1), 1);
        due("42 twice", x.appendToOrder(1), DUPLICATE);
        due("42 second", x.appendToOrder(0), 2);
        due("42 orderAt", x.orderAt(0), 1);
        due("42 orderAt", x.orderAt(1), 0);
        LinearizabilityChecker y = withAllObjects();
        for (int number = 0; number < 10; number++) {
            full(y, GET, 0, 1, 0, 0);
        }
        for (int number = 9; number >= 0; number--) {
            due("42 ten", y.appendToOrder(number), 10 - number);
        }
        due("42 orderAt(9)", y.orderAt(9), 0);
        due("42 twice", y.appendToOrder(5), DUPLICATE);
    }

    // Promise 43
    private static void removeFromOrder() {
        LinearizabilityChecker x = withAllObjects();
        due("43 no operation", x.removeFromOrder(0), NO_SUCH_OPERATION);
        for (int thread = 0; thread < 4; thread++) {
            x.invokeGet(thread, 1);
        }
        due("43 not in it", x.removeFromOrder(0), NONE);
        x.appendToOrder(3);
        x.appendToOrder(1);
        x.appendToOrder(2);
        due("43 never in it", x.removeFromOrder(0), NONE);
        due("43 too large", x.removeFromOrder(4), NO_SUCH_OPERATION);
        due("43 negative", x.removeFromOrder(-1), NO_SUCH_OPERATION);
        due("43 the middle", x.removeFromOrder(1), 1);
        due("43 shifted", x.orderAt(1), 2);
        due("43 the end", x.orderAt(2), NONE);
        due("43 size", x.orderSize(), 2);
        due("43 the first", x.removeFromOrder(3), 0);
        due("43 shifted", x.orderAt(0), 2);
        due("43 the last", x.removeFromOrder(2), 0);
        due("43 size", x.orderSize(), 0);
        due("43 gone", x.removeFromOrder(2), NONE);
        due("43 append again", x.appendToOrder(2), 1);
    }

    // Promises 44 and 45
    private static void orderSizeAndOrderAt() {
        LinearizabilityChecker x = withAllObjects();
        due("44 empty", x.orderSize(), 0);
        due("45 empty", x.orderAt(0), NONE);
        x.invokeGet(0, 1);
        x.invokeGet(1, 1);
        x.appendToOrder(1);
        due("44 one", x.orderSize(), 1);
        due("45 orderAt(0)", x.orderAt(0), 1);
        due("45 orderAt(1)", x.orderAt(1), NONE);
        due("45 orderAt(-1)", x.orderAt(-1), NONE);
        due("45 orderAt(MIN)", x.orderAt(Integer.MIN_VALUE), NONE);
        due("45 orderAt(MAX)", x.orderAt(Integer.MAX_VALUE), NONE);
        x.appendToOrder(0);
        due("44 two", x.orderSize(), 2);
        due("45 orderAt(1)", x.orderAt(1), 0);
    }

    /** A register with one completed and one pending operation, the completed one in the order buffer. */
    private static LinearizabilityChecker withOrder() {
        LinearizabilityChecker x = withRegister(0);
        full(x, READ, 0, 0, 0, 0);
        x.invokeRead(1, 0);
        x.appendToOrder(0);
        return x;
    }

    // The order buffer under the methods that change the history (promises 2 to 21, 50)
    private static void orderIsEmptied() {
        LinearizabilityChecker x = withOrder();
        x.createRegister(100);
        x.createCounter(100);
        x.invokeRead(1, 0);
        x.respond(0, 0);
        x.crash(4);
        x.canRespond(1, 0);
        x.countResponses(1);
        x.isLinearizable();
        x.appendCharacter('0');
        x.parseText();
        x.saveSnapshot();
        due("44 refused calls and questions keep it", x.orderSize(), 1);
        x.restoreSnapshot();
        due("44 the saved one", x.orderSize(), 1);
        x.createRegister(1);
        due("2 createRegister empties it", x.orderSize(), 0);
        x = withOrder();
        x.createCounter(1);
        due("3 createCounter empties it", x.orderSize(), 0);
        x = withOrder();
        x.createQueue();
        due("4 createQueue empties it", x.orderSize(), 0);
        x = withOrder();
        x.createSet();
        due("5 createSet empties it", x.orderSize(), 0);
        x.createSet();
        x.createSet();
        x.appendToOrder(0);
        due("5 full", x.createSet(), FULL);
        due("5 a refused creation keeps it", x.orderSize(), 1);
        x = withOrder();
        x.invokeRead(2, 0);
        due("9 an invocation empties it", x.orderSize(), 0);
        x = withOrder();
        x.respond(1, 0);
        due("19 respond empties it", x.orderSize(), 0);
        x = withOrder();
        x.crash(3);
        due("20 crash empties it", x.orderSize(), 0);
        x = withOrder();
        x.undo();
        due("21 undo empties it", x.orderSize(), 0);
        x = withOrder();
        x.reset();
        due("8 reset empties it", x.orderSize(), 0);
        x = withOrder();
        due("50 the first command fails", parse(x, "1.0.read();2!"), -2000);
        due("50 and keeps it", x.orderSize(), 1);
        due("50 a command", parse(x, "2!"), 1);
        due("50 and empties it", x.orderSize(), 0);
    }

    // Promise 46
    private static void isOrderLinearization() {
        LinearizabilityChecker x = withRegister(0);
        due("46 nothing in order", x.isOrderLinearization(), 1);
        x.invokeWrite(0, 0, 1);
        due("46 a pending one may miss", x.isOrderLinearization(), 1);
        x.appendToOrder(0);
        due("46 or be there", x.isOrderLinearization(), 1);
        full(x, READ, 1, 0, 0, 1);
        due("46 a completed one misses", x.isOrderLinearization(), 0);
        x.appendToOrder(1);
        due("46 without the write", x.isOrderLinearization(), 0);
        x.appendToOrder(0);
        due("46 in the wrong order", x.isOrderLinearization(), 0);
        x.removeFromOrder(1);
        x.appendToOrder(1);
        due("46 in the right order", x.isOrderLinearization(), 1);
        LinearizabilityChecker y = withAllObjects();
        full(y, GET, 0, 1, 0, 0);
        full(y, GET, 1, 1, 0, 0);
        y.appendToOrder(1);
        y.appendToOrder(0);
        due("46 against the real-time order", y.isOrderLinearization(), 0);
    }

    // Promise 47
    private static void firstBadPosition() {
        LinearizabilityChecker x = withRegister(0);
        due("47 empty", x.firstBadPosition(), NONE);
        x.invokeWrite(0, 0, 1);
        x.invokeWrite(2, 0, 2);
        full(x, READ, 1, 0, 0, 1);
        due("47 a missing one is not bad", x.firstBadPosition(), NONE);
        x.appendToOrder(0);
        x.appendToOrder(2);
        x.appendToOrder(1);
        due("47 good", x.firstBadPosition(), NONE);
        x.removeFromOrder(0);
        due("47 another result", x.firstBadPosition(), 0);
        x.removeFromOrder(2);
        x.appendToOrder(0);
        x.appendToOrder(2);
        due("47 good again", x.firstBadPosition(), NONE);
        x.removeFromOrder(1);
        x.removeFromOrder(0);
        x.appendToOrder(0);
        x.appendToOrder(1);
        due("47 the read is first", x.firstBadPosition(), 0);
        LinearizabilityChecker y = withAllObjects();
        full(y, GET, 0, 1, 0, 0);
        full(y, GET, 0, 1, 0, 0);
        y.invokeGet(3, 1);
        y.appendToOrder(0);
        y.appendToOrder(2);
        due("47 one that precedes it misses", y.firstBadPosition(), 1);
        y.removeFromOrder(2);
        y.appendToOrder(1);
        y.appendToOrder(2);
        due("47 now it is there", y.firstBadPosition(), NONE);
        y.removeFromOrder(1);
        y.appendToOrder(1);
        due("47 too late", y.firstBadPosition(), 1);
        y.removeFromOrder(0);
        due("47 the first of several", y.firstBadPosition(), 0);
        LinearizabilityChecker z = withAllObjects();
        full(z, GET, 0, 1, 0, 5);
        z.invokeGet(1, 1);
        z.appendToOrder(0);
        due("47 its own result", z.firstBadPosition(), 0);
        z.removeFromOrder(0);
        due("47 not in the buffer", z.firstBadPosition(), NONE);
        z.appendToOrder(1);
        due("47 it precedes the pending one", z.firstBadPosition(), 0);
    }

    // Promise 48
    private static void appendCharacter() {
        LinearizabilityChecker x = new LinearizabilityChecker();
        for (int character : new int[] {31, 127, -1, 0, Integer.MIN_VALUE, Integer.MAX_VALUE, 65536 + 48}) {
            due("48 character " + character, x.appendCharacter(character), BAD_VALUE);
        }
        due("48 32", x.appendCharacter(32), 1);
        due("48 126", x.appendCharacter(126), 2);
        for (int length = 3; length <= 120; length++) {
            due("48 length", x.appendCharacter('0'), length);
        }
        due("48 full", x.appendCharacter('0'), FULL);
        due("48 bad value before full", x.appendCharacter(127), BAD_VALUE);
        due("48 still 120", x.clearText(), 120);
    }

    // Promise 49
    private static void clearText() {
        LinearizabilityChecker x = new LinearizabilityChecker();
        due("49 empty", x.clearText(), 0);
        type(x, "0!x");
        due("49 three", x.clearText(), 3);
        due("49 empty again", x.clearText(), 0);
        due("49 a new text", parse(x, "0!"), 1);
    }

    // Promise 50: the syntax error positions
    private static void parseSyntax() {
        String[] texts = {"", "x", ";", " 0!", "0", "00!", "0 !", "0!;", "0!;;0!", "0!!", "0! ", "0!;0", "-0!",
            "0=", "0=;", "0=-", "0=--1", "0=-;", "0=1234", "0=-1234", "0=1 ", "0=1;", "0=+1", "0=1!", "0=1.",
            "0.", "0..", "0.0", "0.00.", "0.0.", "0.0.(", "0.0.x", "0.0.re", "0.0.rea(", "0.0.ree", "0.0.rem(",
            "0.0.removed(", "0.0.Read()", "0.0.reads()", "0.0.read", "0.0.read(", "0.0.read(;", "0.0.read(1)",
            "0.0.read()1", "0.0.write()", "0.0.write(1,2)", "0.0.write(1", "0.0.write(-", "0.0.write(-)",
            "0.0.write(1234)", "0.0.compareAndSet(1)", "0.0.compareAndSet(1,)", "0.0.compareAndSet(1,,2)",
            "0.0.compareAndSet(1,2,3)", "0.0.compareAndset(1,2)", "0.0.contain(1)", "0.0.comtains(1)",
            "0.0.get(-1)", "0.0.add(1)0", "0.0.enqueue (1)", "0.0.dequeue( )", "0.0.insert(a)", "a!", "0?",
            "0!;x", "0.0.ge", "0.0.d", "0.0.in;", "0.0.co", "0.0.cox"};
        int[] positions = {0, 0, 0, 0, 1, 1, 1, 3, 3, 2, 2, 4, 0,
            2, 2, 3, 3, 3, 5, 6, 3, 4, 2, 3, 3,
            2, 2, 3, 3, 4, 4, 4, 6, 7, 6, 7,
            10, 4, 8, 8, 9, 9, 9,
            10, 10, 11, 11, 11, 11,
            13, 19, 20, 20,
            21, 14, 11, 7,
            8, 10, 11, 12, 11, 0, 1,
            3, 6, 5, 6, 6, 6};
        for (int index = 0; index < texts.length; index++) {
            LinearizabilityChecker x = withAllObjects();
            due("50 \"" + texts[index] + "\"", parse(x, texts[index]), -1000 - positions[index]);
            due("50 nothing of it is executed", x.eventCount(), 0);
            due("50 the text is empty", x.clearText(), 0);
        }
    }

    // Promise 50: the commands
    private static void parseExecution() {
        LinearizabilityChecker x = withAllObjects();
        due("50 three commands", parse(x, "0.0.write(5);0=0;1!"), 3);
        due("50 the text is empty", x.clearText(), 0);
        due("50 kindOf", x.kindOf(0), WRITE);
        due("50 responseTime", x.responseTime(0), 1);
        due("50 crashed", x.crash(1), THREAD_CRASHED);
        due("50 a read", parse(x, "2.0.read()"), 1);
        due("50 of what was written", x.canRespond(2, 5), 1);
        String[] names = {"read", "write", "compareAndSet", "get", "add", "enqueue", "dequeue", "insert",
            "remove", "contains"};
        String[] arguments = {"()", "(7)", "(8,9)", "()", "(-7)", "(7)", "()", "(7)", "(7)", "(7)"};
        LinearizabilityChecker y = withAllObjects();
        for (int kind = READ; kind <= CONTAINS; kind++) {
            String command = (kind % 4) + "." + fittingObject(kind) + "." + names[kind] + arguments[kind];
            due("50 " + command, parse(y, command + ";" + (kind % 4) + "=0"), 2);
            due("50 kindOf " + command, y.kindOf(kind), kind);
            due("50 threadOf " + command, y.threadOf(kind), kind % 4);
            due("50 objectOf " + command, y.objectOf(kind), fittingObject(kind));
        }
        LinearizabilityChecker z = withRegister(8);
        due("50 both arguments", parse(z, "3.0.compareAndSet(008,09);3=1;3.0.read();3=9"), 4);
        due("50 in their order", z.isLinearizable(), 1);
        due("50 one fails", parse(z, "0.0.read();0=9;0=9;1!"), -2002);
        due("50 what was before it stays", z.eventCount(), 6);
        due("50 what is behind it is left", z.crash(1), 6);
        due("50 the first fails", parse(z, "0=1;0!"), -2000);
        due("50 thread 4", parse(z, "0!;4!"), -2001);
        due("50 object 9", parse(z, "2.9.read()"), -2000);
        due("50 a value out of range", parse(z, "2.0.write(100)"), -2000);
        due("50 a negative value", parse(z, "2.0.write(-1)"), -2000);
        due("50 -0 is 0", parse(z, "2.0.write(-0);2=-000"), 2);
        due("50 the result", z.resultOf(3), 1000);
        LinearizabilityChecker w = withAllObjects();
        due("50 EMPTY and negative numbers", parse(w, "0.2.dequeue();0=-1;0.1.add(-99);0=0;0.1.get();0=-099"), 6);
        due("50 are right", w.isLinearizable(), 1);
        due("50 the recorded one", w.resultOf(2), 901);
        due("50 an invalid end executes nothing", parse(w, "1!;2!;3"), -1007);
        due("50 no event", w.eventCount(), 6);
    }

    // Promise 50: long texts
    private static void parseLimits() {
        LinearizabilityChecker x = new LinearizabilityChecker();
        StringBuilder crashes = new StringBuilder();
        for (int command = 0; command < 40; command++) {
            crashes.append(command == 0 ? "" : ";").append(command % 4).append('!');
        }
        due("50 forty commands, the fifth fails", parse(x, crashes.toString()), -2004);
        due("50 four crashes", x.eventCount(), 4);
        due("50 a semicolon at the end of 120 characters", parse(x, crashes + ";"), -1120);
        String zeros = "0!;".repeat(37);
        due("50 a name behind the limit", parse(x, zeros + "0.0.write"), -1120);
        due("50 a wrong name before it", parse(x, zeros + "0.0.wrixe"), -1118);
        due("50 the events stay", x.eventCount(), 4);
    }

    // Promise 51
    private static void saveSnapshot() {
        LinearizabilityChecker x = new LinearizabilityChecker();
        due("51 empty", x.saveSnapshot(), 0);
        x.createRegister(1);
        x.invokeRead(0, 0);
        x.appendToOrder(0);
        due("51 one event", x.saveSnapshot(), 1);
        due("51 the order stays", x.orderSize(), 1);
        due("51 eventCount", x.eventCount(), 1);
        x.respond(0, 1);
        x.createSet();
        x.crash(2);
        due("51 the later calls do not change it", x.restoreSnapshot(), 1);
        due("51 three events again", x.eventCount(), 1);
        due("51 objects", x.objectCount(), 1);
        due("51 the first snapshot was replaced", x.operationCount(), 1);
    }

    // Promise 52
    private static void restoreSnapshot() {
        LinearizabilityChecker x = withRegister(6);
        due("52 none", x.restoreSnapshot(), NO_SNAPSHOT);
        due("52 objects stay", x.objectCount(), 1);
        x.invokeCompareAndSet(0, 0, 6, 7);
        x.respond(0, 1);
        x.invokeRead(1, 0);
        x.crash(3);
        x.appendToOrder(1);
        x.appendToOrder(0);
        x.saveSnapshot();
        x.appendCharacter('0');
        x.reset();
        x.createSet();
        x.createQueue();
        x.crash(0);
        x.invokeDequeue(2, 1);
        x.respond(2, 50);
        x.invokeInsert(3, 0, 50);
        x.crash(2);
        x.respond(3, 1);
        x.crash(1);
        x.appendToOrder(0);
        x.appendToOrder(1);
        due("52 restored", x.restoreSnapshot(), 4);
        due("52 objects", x.objectCount(), 1);
        due("52 type", x.typeOf(0), 0);
        due("52 operations", x.operationCount(), 2);
        due("52 kind", x.kindOf(0), COMPARE_AND_SET);
        due("52 thread", x.threadOf(1), 1);
        due("52 object", x.objectOf(0), 0);
        due("52 invocation", x.invocationTime(1), 2);
        due("52 response", x.responseTime(0), 1);
        due("52 result", x.resultOf(0), 1001);
        due("52 the arguments and the initial value", x.canRespond(1, 7), 1);
        due("52 only they", x.countResponses(1), 1);
        due("52 order size", x.orderSize(), 2);
        due("52 order", x.orderAt(0), 1);
        due("52 crashed", x.crash(3), THREAD_CRASHED);
        due("52 busy", x.invokeRead(1, 0), THREAD_BUSY);
        due("52 idle", x.respond(2, 0), THREAD_IDLE);
        due("52 the text stays", x.clearText(), 1);
        x.undo();
        x.undo();
        due("52 the snapshot is kept", x.restoreSnapshot(), 4);
        due("52 and again", x.restoreSnapshot(), 4);
        due("52 undo after it", x.undo(), 3);
        due("52 the crash is undone", x.crash(3), 3);
        x.undo();
        due("52 an invocation is undone", x.undo(), 2);
        due("52 its operation is gone", x.operationCount(), 1);
        due("52 a response is undone", x.undo(), 1);
        due("52 the thread can respond again", x.respond(0, 0), 0);
        due("52 the most pending", x.maxPending(), 1);
    }

    // The examples of the document
    private static void examples() {
        LinearizabilityChecker x = withRegister(0);
        due("example 1", x.invokeWrite(0, 0, 5), 0);
        due("example 1", x.invokeRead(1, 0), 1);
        due("example 1", x.respond(1, 5), 1);
        due("example 1", x.isLinearizable(), 1);
        due("example 1", x.countLinearizations(), 1);
        due("example 1", x.respond(0, 0), 0);
        due("example 1", x.firstLinearizationAt(0), 0);
        x = withRegister(0);
        full(x, WRITE, 0, 0, 5, 0);
        full(x, READ, 1, 0, 0, 0);
        due("example 2", x.isLinearizable(), 0);
        due("example 2", x.isSequentiallyConsistent(), 1);
        due("example 2", x.firstViolation(), 4);
        x = new LinearizabilityChecker();
        due("example 3", x.createQueue(), 0);
        x.invokeEnqueue(0, 0, 1);
        x.invokeEnqueue(1, 0, 2);
        due("example 3", x.invokeDequeue(2, 0), 2);
        due("example 3", x.countResponses(2), 3);
        due("example 3", x.canRespond(2, -1), 1);
        due("example 3", x.respond(2, 2), 2);
        due("example 3", x.firstLinearizationLength(), 3);
        x = new LinearizabilityChecker();
        due("example 4", x.createCounter(7), 0);
        due("example 4", x.invokeAdd(0, 0, 3), 0);
        due("example 4", x.invokeAdd(0, 0, 1), THREAD_BUSY);
        due("example 4", x.invokeAdd(1, 1, 1), NO_SUCH_OBJECT);
        due("example 4", x.invokeRead(1, 0), WRONG_TYPE);
        due("example 4", x.respond(0, 1000), BAD_VALUE);
        due("example 4", x.respond(0, 7), 0);
        x = new LinearizabilityChecker();
        due("example 5", x.createSet(), 0);
        due("example 5", x.invokeInsert(0, 0, 9), 0);
        due("example 5", x.crash(0), 1);
        due("example 5", x.invokeContains(1, 0, 9), 1);
        due("example 5", x.respond(1, 1), 1);
        due("example 5", x.isLinearizable(), 1);
        due("example 5", x.countLinearizations(), 1);
        due("example 5", x.respond(0, 1), THREAD_CRASHED);
        due("example 6", parse(withRegister(0), "0.0.read(;"), -1009);
    }
}
