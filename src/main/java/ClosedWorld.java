import java.util.Arrays;

/**
 * A translator for programs that are known as a whole: classes with fields and methods, whose code
 * works on a stack. The face hands on to four parts: the program as it was given, the check of its
 * types, what can be reached in it, and the machine that runs it.
 */
public final class ClosedWorld {
    public static final int NONE = -1;
    public static final int NUMBER = 9;
    public static final int UNSET = 8;
    public static final int NULLED = -1;
    public static final int DIVIDE = -2;
    public static final int MISCAST = -3;
    public static final int MEMORY = -4;
    public static final int DEEP = -5;

    private static final int MOST_TYPES = 6;
    private static final int MOST_FIELDS = 6;
    private static final int MOST_METHODS = 10;
    private static final int MOST_ARGUMENTS = 2;
    private static final int SELECTORS = 4;
    private static final int MOST_CODE = 20;
    private static final int MOST_GUARDS = 3;
    private static final int LOCALS = 4;
    private static final int MOST_STACKED = 6;
    private static final int PLACES = LOCALS + MOST_STACKED;
    private static final int MOST_OBJECTS = 16;
    private static final int MOST_RUNNING = 10;
    private static final int MOST_FUEL = 2000;
    private static final int PRINTS_HELD = 16;
    private static final int NO_START = 10;

    private final Program program;
    private final Checker checker;
    private final Reach reach;
    private final Machine machine;
    private boolean closed;
    private boolean ran;

    public ClosedWorld() {
        Program given = new Program();
        Checker checked = new Checker(given);
        program = given;
        checker = checked;
        reach = new Reach(given, checked);
        machine = new Machine(given);
        closed = false;
        ran = false;
    }

    public int type(int parent, int fields) {
        return reopenUnlessNone(program.addType(parent, fields));
    }

    public int method(int type, int selector, int arguments) {
        return reopenUnlessNone(program.addMethod(type, selector, arguments));
    }

    public boolean initialiser(int type, int method) {
        return reopenIf(program.setInitialiser(type, method));
    }

    public int code(int method, int op, int a) {
        return reopenUnlessNone(program.addCode(method, op, a));
    }

    public boolean guard(int method, int from, int to, int handler) {
        return reopenIf(program.addGuard(method, from, to, handler));
    }

    public int close() {
        if (closed) {
            return NONE;
        }
        if (!program.hasStart()) {
            return NO_START;
        }
        for (int method = 0; method < program.methodCount(); method++) {
            if (!checker.isSound(method)) {
                return method;
            }
        }
        reach.find();
        closed = true;
        return NONE;
    }

    public int typeAt(int method, int instruction, int place) {
        return closed ? checker.typeOf(method, instruction, place) : NONE;
    }

    public int answer(int type, int selector) {
        return program.answering(type, selector);
    }

    public int slot(int type, int selector) {
        return program.slotOf(type, selector);
    }

    public boolean live(int method) {
        return closed && program.isMethod(method) && reach.isLive(method);
    }

    public int targets(int method, int instruction) {
        if (!live(method) || !checker.isReached(method, instruction)
                || program.opOf(method, instruction) != Op.SEND) {
            return NONE;
        }
        return Integer.bitCount(reach.targetSet(method, instruction));
    }

    public int run(int argument, int fuel) {
        if (!closed || fuel < 0 || fuel > MOST_FUEL) {
            return NONE;
        }
        ran = true;
        return machine.start(argument, fuel);
    }

    public int result() {
        return ran ? machine.finalValue() : 0;
    }

    public int steps() {
        return ran ? machine.stepCount() : NONE;
    }

    public int prints() {
        return ran ? machine.printCount() : NONE;
    }

    public int printed(int k) {
        return ran ? machine.printOf(k) : 0;
    }

    public int begun(int type) {
        return ran && program.isType(type) ? machine.orderOf(type) : NONE;
    }

    public int objects() {
        return ran ? machine.objectCount() : NONE;
    }

    public int kept(int type) {
        return ran && program.isType(type) ? machine.staticOf(type) : 0;
    }

    private int reopenUnlessNone(int number) {
        reopenIf(number != NONE);
        return number;
    }

    private boolean reopenIf(boolean changed) {
        if (changed) {
            closed = false;
            ran = false;
        }
        return changed;
    }

    private static boolean within(int number, int bound) {
        return number >= 0 && number < bound;
    }

    /** Sets of classes and of methods are held as the bits of an int: there are at most ten. */
    private static boolean has(int set, int member) {
        return (set >> member & 1) != 0;
    }

    /** The ops by their numbers. */
    private static final class Op {
        static final int PUSH = 0;
        static final int NULL = 1;
        static final int LOAD = 2;
        static final int STORE = 3;
        static final int POP = 4;
        static final int ADD = 5;
        static final int SUB = 6;
        static final int MUL = 7;
        static final int DIV = 8;
        static final int JUMP = 9;
        static final int LE = 10;
        static final int NEW = 11;
        static final int GET = 12;
        static final int PUT = 13;
        static final int STATIC = 14;
        static final int SET = 15;
        static final int CALL = 16;
        static final int SEND = 17;
        static final int CAST = 18;
        static final int ISA = 19;
        static final int PRINT = 20;
        static final int THROW = 21;
        static final int RETURN = 22;
        static final int COUNT = 23;
    }

    /** The classes and methods as they were given. */
    private static final class Program {
        private int typeCount;
        private int methodCount;
        /** For each class the set of those it is of; parents are earlier, so the higher, the nearer. */
        private final int[] kin = new int[MOST_TYPES];
        private final int[] fieldCounts = new int[MOST_TYPES];
        private final int[] initialisers = new int[MOST_TYPES];
        private final int[][] ownMethods = new int[MOST_TYPES][SELECTORS];
        private final int[] owners = new int[MOST_METHODS];
        private final int[] selectors = new int[MOST_METHODS];
        private final int[] inputCounts = new int[MOST_METHODS];
        private final int[] lengths = new int[MOST_METHODS];
        private final int[][] ops = new int[MOST_METHODS][MOST_CODE];
        private final int[][] operands = new int[MOST_METHODS][MOST_CODE];
        private final int[] guardCounts = new int[MOST_METHODS];
        private final int[][] froms = new int[MOST_METHODS][MOST_GUARDS];
        private final int[][] ends = new int[MOST_METHODS][MOST_GUARDS];
        private final int[][] handlers = new int[MOST_METHODS][MOST_GUARDS];

        int addType(int parent, int fields) {
            boolean parentFits = parent == NONE || isType(parent);
            if (typeCount >= MOST_TYPES || !parentFits || fields < 0
                    || fields > MOST_FIELDS - fieldsOf(parent)) {
                return NONE;
            }
            int type = typeCount;
            typeCount++;
            kin[type] = 1 << type | kinOf(parent);
            fieldCounts[type] = fieldsOf(parent) + fields;
            initialisers[type] = NONE;
            Arrays.fill(ownMethods[type], NONE);
            return type;
        }

        int addMethod(int type, int selector, int arguments) {
            if (methodCount >= MOST_METHODS || !isType(type)) {
                return NONE;
            }
            boolean plain = selector == NONE;
            boolean fits = plain
                    ? within(arguments, MOST_ARGUMENTS + 1)
                    : within(selector, SELECTORS) && ownMethods[type][selector] == NONE;
            if (!fits) {
                return NONE;
            }
            int method = methodCount;
            methodCount++;
            owners[method] = type;
            selectors[method] = selector;
            inputCounts[method] = plain ? arguments : 2;
            if (!plain) {
                ownMethods[type][selector] = method;
            }
            return method;
        }

        boolean setInitialiser(int type, int method) {
            if (!isType(type) || !isPlain(method) || inputCounts[method] != 0) {
                return false;
            }
            initialisers[type] = method;
            return true;
        }

        int addCode(int method, int op, int a) {
            if (!isMethod(method) || lengths[method] >= MOST_CODE || !within(op, Op.COUNT)
                    || !operandFits(op, a)) {
                return NONE;
            }
            int instruction = lengths[method];
            lengths[method]++;
            ops[method][instruction] = op;
            operands[method][instruction] = a;
            return instruction;
        }

        private boolean operandFits(int op, int a) {
            switch (op) {
                case Op.NULL:
                case Op.NEW:
                case Op.STATIC:
                case Op.SET:
                case Op.CAST:
                case Op.ISA:
                    return isType(a);
                case Op.LOAD:
                case Op.STORE:
                    return within(a, LOCALS);
                case Op.JUMP:
                case Op.LE:
                    return within(a, MOST_CODE);
                case Op.GET:
                case Op.PUT:
                    return within(a, MOST_FIELDS);
                case Op.CALL:
                    return isPlain(a);
                case Op.SEND:
                    return within(a, SELECTORS);
                default:
                    return true;
            }
        }

        boolean addGuard(int method, int from, int to, int handler) {
            if (!isMethod(method) || guardCounts[method] >= MOST_GUARDS || from < 0 || from >= to
                    || to > MOST_CODE || !within(handler, MOST_CODE)) {
                return false;
            }
            int guard = guardCounts[method];
            guardCounts[method]++;
            froms[method][guard] = from;
            ends[method][guard] = to;
            handlers[method][guard] = handler;
            return true;
        }

        boolean isType(int type) {
            return type >= 0 && type < typeCount;
        }

        boolean isMethod(int method) {
            return method >= 0 && method < methodCount;
        }

        boolean isPlain(int method) {
            return isMethod(method) && selectors[method] == NONE;
        }

        boolean hasStart() {
            return isPlain(0) && inputCounts[0] == 1;
        }

        int typeCount() {
            return typeCount;
        }

        int methodCount() {
            return methodCount;
        }

        int kinOf(int type) {
            return isType(type) ? kin[type] : 0;
        }

        boolean isOf(int type, int ancestor) {
            return isType(type) && isType(ancestor) && has(kin[type], ancestor);
        }

        /** The nearest class that both are of, or NONE. */
        int nearestCommon(int one, int other) {
            int common = kinOf(one) & kinOf(other);
            for (int type = MOST_TYPES - 1; type >= 0; type--) {
                if (has(common, type)) {
                    return type;
                }
            }
            return NONE;
        }

        int fieldsOf(int type) {
            return isType(type) ? fieldCounts[type] : 0;
        }

        int initialiserOf(int type) {
            return isType(type) ? initialisers[type] : NONE;
        }

        int ownerOf(int method) {
            return isMethod(method) ? owners[method] : NONE;
        }

        /** How many locals a method finds filled: its arguments, and the receiver where it has one. */
        int inputsOf(int method) {
            return isMethod(method) ? inputCounts[method] : 0;
        }

        int lengthOf(int method) {
            return isMethod(method) ? lengths[method] : 0;
        }

        int opOf(int method, int instruction) {
            return within(instruction, lengthOf(method)) ? ops[method][instruction] : NONE;
        }

        int operandOf(int method, int instruction) {
            return within(instruction, lengthOf(method)) ? operands[method][instruction] : NONE;
        }

        /** Where the first guard over an instruction goes on, or NONE. */
        int handlerOf(int method, int instruction) {
            if (!isMethod(method)) {
                return NONE;
            }
            for (int guard = 0; guard < guardCounts[method]; guard++) {
                if (froms[method][guard] <= instruction && instruction < ends[method][guard]) {
                    return handlers[method][guard];
                }
            }
            return NONE;
        }

        int answering(int type, int selector) {
            if (!isType(type) || !within(selector, SELECTORS)) {
                return NONE;
            }
            for (int nearer = type; nearer >= 0; nearer--) {
                if (has(kin[type], nearer) && ownMethods[nearer][selector] != NONE) {
                    return ownMethods[nearer][selector];
                }
            }
            return NONE;
        }

        int slotOf(int type, int selector) {
            if (!isType(type)) {
                return NONE;
            }
            int before = 0;
            for (int nearer = 0; nearer <= type; nearer++) {
                for (int method = 0; method < methodCount; method++) {
                    boolean inTable = selectors[method] != NONE && owners[method] == nearer
                            && has(kin[type], nearer);
                    if (inTable && selectors[method] == selector) {
                        return Integer.bitCount(before);
                    }
                    if (inTable) {
                        before |= 1 << selectors[method];
                    }
                }
            }
            return NONE;
        }
    }

    /** Four locals and a stack: of numbers and objects when code runs, of types when it is checked. */
    private static final class Frame {
        /** The locals, then the stack from its lowest value on: the places as typeAt counts them. */
        private final int[] places = new int[PLACES];
        private int size;
        private int next;

        /** Code that is sound never reads what this leaves in the locals. */
        void clear() {
            Arrays.fill(places, UNSET);
            size = 0;
            next = 0;
        }

        /** Begins a method whose inputs lie on the stack of the frame that runs it. */
        void beginFrom(Frame caller, int inputs) {
            clear();
            for (int local = inputs - 1; local >= 0; local--) {
                setPlace(local, caller.pop());
            }
        }

        /** Goes on at a handler, which finds just the number that was thrown. */
        void goOnWith(int handler, int number) {
            size = 0;
            push(number);
            next = handler;
        }

        int size() {
            return size;
        }

        void setSize(int stacked) {
            size = stacked;
        }

        int next() {
            return next;
        }

        void setNext(int instruction) {
            next = instruction;
        }

        int place(int place) {
            return within(place, PLACES) ? places[place] : UNSET;
        }

        void setPlace(int place, int value) {
            if (within(place, PLACES)) {
                places[place] = value;
            }
        }

        /** The check keeps the stack from growing too high; push and pop look all the same. */
        void push(int value) {
            if (size < MOST_STACKED) {
                places[LOCALS + size] = value;
                size++;
            }
        }

        int pop() {
            if (size == 0) {
                return UNSET;
            }
            size--;
            return places[LOCALS + size];
        }

        /** The value under the top one: the receiver of a SEND. */
        int second() {
            return size >= 2 ? places[LOCALS + size - 2] : UNSET;
        }
    }

    /** Finds the least types at each instruction that is reached, and whether a method is sound. */
    private static final class Checker {
        /**
         * Above what a method can need: a visit follows the first reaching of an instruction or the
         * rise of a type at it, and a type rises at most six times.
         */
        private static final int MOST_ROUNDS = 2000;

        private final Program program;
        private final int[] types = new int[MOST_METHODS * MOST_CODE * PLACES];
        /** The size of the stack at each instruction, NONE where it is not reached. */
        private final int[] sizes = new int[MOST_METHODS * MOST_CODE];
        private final Frame frame = new Frame();
        private int method;
        /** The set of instructions whose types rose since they were last visited. */
        private int waiting;
        private boolean sound;

        Checker(Program given) {
            program = given;
        }

        boolean isSound(int checked) {
            method = checked;
            waiting = 0;
            sound = true;
            Arrays.fill(sizes, rowOf(checked, 0), rowOf(checked, MOST_CODE), NONE);
            enterStart();
            for (int round = 0; round < MOST_ROUNDS && sound && waiting != 0; round++) {
                visit(firstWaiting());
            }
            return sound;
        }

        boolean isReached(int of, int instruction) {
            return program.isMethod(of) && within(instruction, MOST_CODE)
                    && sizes[rowOf(of, instruction)] != NONE;
        }

        int typeOf(int of, int instruction, int place) {
            if (!isReached(of, instruction)) {
                return NONE;
            }
            int row = rowOf(of, instruction);
            return within(place, LOCALS + sizes[row]) ? types[row * PLACES + place] : NONE;
        }

        /** The type of the receiver at a SEND that is reached. */
        int receiverAt(int of, int instruction) {
            if (!isReached(of, instruction)) {
                return NONE;
            }
            int row = rowOf(of, instruction);
            return sizes[row] >= 2 ? types[row * PLACES + LOCALS + sizes[row] - 2] : NONE;
        }

        private static int rowOf(int of, int instruction) {
            return of * MOST_CODE + instruction;
        }

        private void enterStart() {
            frame.clear();
            for (int local = 0; local < program.inputsOf(method); local++) {
                frame.setPlace(local, NUMBER);
            }
            if (!program.isPlain(method)) {
                frame.setPlace(0, program.ownerOf(method));
            }
            arriveAt(0);
        }

        private int firstWaiting() {
            int first = 0;
            while (first < MOST_CODE - 1 && !has(waiting, first)) {
                first++;
            }
            return first;
        }

        private void visit(int instruction) {
            waiting &= ~(1 << instruction);
            int handler = program.handlerOf(method, instruction);
            if (handler != NONE) {
                recall(instruction);
                frame.goOnWith(handler, NUMBER);
                arriveAt(handler);
            }
            recall(instruction);
            int op = program.opOf(method, instruction);
            int a = program.operandOf(method, instruction);
            apply(op, a);
            if (op == Op.JUMP || op == Op.LE) {
                arriveAt(a);
            }
            if (op != Op.JUMP && op != Op.THROW && op != Op.RETURN) {
                arriveAt(instruction + 1);
            }
        }

        /** Sets the frame to the types at an instruction. */
        private void recall(int instruction) {
            int row = rowOf(method, instruction);
            frame.setSize(sizes[row]);
            for (int place = 0; place < LOCALS + sizes[row]; place++) {
                frame.setPlace(place, types[row * PLACES + place]);
            }
        }

        /** Joins the frame into the types at an instruction. */
        private void arriveAt(int instruction) {
            if (!within(instruction, program.lengthOf(method))) {
                sound = false;
                return;
            }
            int row = rowOf(method, instruction);
            boolean first = sizes[row] == NONE;
            if (first) {
                sizes[row] = frame.size();
                waiting |= 1 << instruction;
            }
            need(sizes[row] == frame.size());
            for (int place = 0; place < LOCALS + sizes[row]; place++) {
                int old = types[row * PLACES + place];
                int type = first ? frame.place(place) : join(old, frame.place(place));
                if (type != old) {
                    types[row * PLACES + place] = type;
                    waiting |= 1 << instruction;
                }
            }
        }

        private int join(int one, int other) {
            if (one == other) {
                return one;
            }
            int common = program.nearestCommon(one, other);
            return common == NONE ? UNSET : common;
        }

        private void apply(int op, int a) {
            switch (op) {
                case Op.PUSH:
                case Op.STATIC:
                    put(NUMBER);
                    break;
                case Op.NULL:
                case Op.NEW:
                    put(a);
                    break;
                case Op.LOAD:
                    need(frame.place(a) != UNSET);
                    put(frame.place(a));
                    break;
                case Op.STORE:
                    frame.setPlace(a, takeAny());
                    break;
                case Op.POP:
                    takeAny();
                    break;
                case Op.ADD:
                case Op.SUB:
                case Op.MUL:
                case Op.DIV:
                    takeNumbers(2);
                    put(NUMBER);
                    break;
                case Op.LE:
                case Op.SET:
                case Op.PRINT:
                case Op.THROW:
                case Op.RETURN:
                    takeNumbers(1);
                    break;
                case Op.CALL:
                    takeNumbers(program.inputsOf(a));
                    put(NUMBER);
                    break;
                default:
                    applyToObject(op, a);
                    break;
            }
        }

        private void applyToObject(int op, int a) {
            switch (op) {
                case Op.GET:
                    need(a < program.fieldsOf(takeObject()));
                    put(NUMBER);
                    break;
                case Op.PUT:
                    takeNumbers(1);
                    need(a < program.fieldsOf(takeObject()));
                    break;
                case Op.SEND:
                    takeNumbers(1);
                    need(program.answering(takeObject(), a) != NONE);
                    put(NUMBER);
                    break;
                case Op.CAST:
                    takeObject();
                    put(a);
                    break;
                case Op.ISA:
                    takeObject();
                    put(NUMBER);
                    break;
                default:
                    break;
            }
        }

        private void need(boolean holds) {
            sound = sound && holds;
        }

        private void put(int type) {
            need(frame.size() < MOST_STACKED);
            frame.push(type);
        }

        private int takeAny() {
            need(frame.size() > 0);
            return frame.pop();
        }

        private void takeNumbers(int count) {
            for (int k = 0; k < count; k++) {
                need(takeAny() == NUMBER);
            }
        }

        private int takeObject() {
            int type = takeAny();
            need(program.isType(type));
            return type;
        }
    }

    /** Finds out which methods are live and which classes are made in a program that is sound. */
    private static final class Reach {
        private final Program program;
        private final Checker checker;
        private int liveSet;
        private int madeSet;

        Reach(Program given, Checker checked) {
            program = given;
            checker = checked;
        }

        /** Each round but the last makes a further method live or a further class made. */
        void find() {
            liveSet = 0;
            madeSet = 0;
            reachCall(0);
            boolean grew = true;
            for (int round = 0; round <= MOST_METHODS + MOST_TYPES && grew; round++) {
                int liveBefore = liveSet;
                int madeBefore = madeSet;
                followLive();
                grew = liveSet != liveBefore || madeSet != madeBefore;
            }
        }

        boolean isLive(int method) {
            return program.isMethod(method) && has(liveSet, method);
        }

        /** The set of methods that a SEND that is reached may run. */
        int targetSet(int method, int instruction) {
            int receiver = checker.receiverAt(method, instruction);
            int selector = program.operandOf(method, instruction);
            int set = 0;
            for (int type = 0; type < program.typeCount(); type++) {
                int target = program.answering(type, selector);
                if (has(madeSet, type) && program.isOf(type, receiver) && target != NONE) {
                    set |= 1 << target;
                }
            }
            return set;
        }

        private void followLive() {
            for (int method = 0; method < program.methodCount(); method++) {
                for (int instruction = 0; instruction < program.lengthOf(method); instruction++) {
                    if (isLive(method) && checker.isReached(method, instruction)) {
                        follow(method, instruction);
                    }
                }
            }
        }

        private void follow(int method, int instruction) {
            int a = program.operandOf(method, instruction);
            switch (program.opOf(method, instruction)) {
                case Op.NEW:
                    madeSet |= 1 << a;
                    touch(a);
                    break;
                case Op.STATIC:
                case Op.SET:
                    touch(a);
                    break;
                case Op.CALL:
                    reachCall(a);
                    break;
                case Op.SEND:
                    liveSet |= targetSet(method, instruction);
                    break;
                default:
                    break;
            }
        }

        private void reachCall(int method) {
            liveSet |= 1 << method;
            touch(program.ownerOf(method));
        }

        private void touch(int touched) {
            for (int type = 0; type <= touched; type++) {
                int initialiser = program.initialiserOf(type);
                if (program.isOf(touched, type) && initialiser != NONE) {
                    liveSet |= 1 << initialiser;
                }
            }
        }
    }

    /** Runs a program that is sound. */
    private static final class Machine {
        /** How an instruction, a method or the run ended; these are the answers of run. */
        private static final int DONE = 0;
        private static final int THREW = 1;
        private static final int SPENT = 2;
        private static final int NULL_OBJECT = -1;

        private final Program program;
        /** Frame 0 stands outside and runs method 0; each other belongs to a method that is running. */
        private final Frame[] frames = new Frame[MOST_RUNNING + 1];
        private final int[] statics = new int[MOST_TYPES];
        private final int[] orders = new int[MOST_TYPES];
        private final int[] objectTypes = new int[MOST_OBJECTS];
        private final int[] fields = new int[MOST_OBJECTS * MOST_FIELDS];
        private final int[] heldPrints = new int[PRINTS_HELD];
        private int begunCount;
        private int objectCount;
        private int printCount;
        private int stepCount;
        private int fuel;
        /** What was answered or thrown last. */
        private int value;

        Machine(Program given) {
            program = given;
            for (int depth = 0; depth < frames.length; depth++) {
                frames[depth] = new Frame();
            }
        }

        int start(int argument, int steps) {
            Arrays.fill(statics, 0);
            Arrays.fill(orders, NONE);
            Arrays.fill(heldPrints, 0);
            begunCount = 0;
            objectCount = 0;
            printCount = 0;
            stepCount = 0;
            fuel = steps;
            frames[0].clear();
            frames[0].push(argument);
            int outcome = trigger(program.ownerOf(0), 0);
            if (outcome == DONE) {
                outcome = perform(0, 1);
            }
            if (outcome == SPENT) {
                value = 0;
            }
            return outcome;
        }

        int finalValue() {
            return value;
        }

        int stepCount() {
            return stepCount;
        }

        int printCount() {
            return printCount;
        }

        int objectCount() {
            return objectCount;
        }

        int printOf(int k) {
            return within(k, PRINTS_HELD) ? heldPrints[k] : 0;
        }

        int orderOf(int type) {
            return within(type, MOST_TYPES) ? orders[type] : NONE;
        }

        int staticOf(int type) {
            return within(type, MOST_TYPES) ? statics[type] : 0;
        }

        private int toss(int number) {
            value = number;
            return THREW;
        }

        /** Runs a method in the frame of this depth. */
        private int perform(int method, int depth) {
            if (depth > MOST_RUNNING) {
                return toss(DEEP);
            }
            Frame frame = frames[depth];
            frame.beginFrom(frames[depth - 1], program.inputsOf(method));
            for (int step = 0; step <= MOST_FUEL; step++) {
                if (stepCount >= fuel) {
                    return SPENT;
                }
                stepCount++;
                int instruction = frame.next();
                frame.setNext(instruction + 1);
                int op = program.opOf(method, instruction);
                int outcome = execute(op, program.operandOf(method, instruction), depth);
                if (outcome == SPENT || outcome == DONE && op == Op.RETURN) {
                    return outcome;
                }
                if (outcome == THREW) {
                    int handler = program.handlerOf(method, instruction);
                    if (handler == NONE) {
                        return THREW;
                    }
                    frame.goOnWith(handler, value);
                }
            }
            return SPENT;
        }

        private int execute(int op, int a, int depth) {
            Frame frame = frames[depth];
            switch (op) {
                case Op.PUSH:
                    frame.push(a);
                    return DONE;
                case Op.NULL:
                    frame.push(NULL_OBJECT);
                    return DONE;
                case Op.LOAD:
                    frame.push(frame.place(a));
                    return DONE;
                case Op.STORE:
                    frame.setPlace(a, frame.pop());
                    return DONE;
                case Op.POP:
                    frame.pop();
                    return DONE;
                case Op.ADD:
                case Op.SUB:
                case Op.MUL:
                case Op.DIV:
                    return calculate(op, frame);
                case Op.JUMP:
                    frame.setNext(a);
                    return DONE;
                case Op.LE:
                    if (frame.pop() <= 0) {
                        frame.setNext(a);
                    }
                    return DONE;
                case Op.PRINT:
                    print(frame.pop());
                    return DONE;
                case Op.THROW:
                    return toss(frame.pop());
                case Op.RETURN:
                    value = frame.pop();
                    return DONE;
                case Op.GET:
                case Op.PUT:
                    return accessField(op, a, frame);
                case Op.CAST:
                case Op.ISA:
                    return testType(op, a, frame);
                case Op.SEND:
                    return send(a, depth);
                default:
                    return executeTriggering(op, a, depth);
            }
        }

        private int executeTriggering(int op, int a, int depth) {
            int outcome = trigger(op == Op.CALL ? program.ownerOf(a) : a, depth);
            if (outcome != DONE) {
                return outcome;
            }
            Frame frame = frames[depth];
            switch (op) {
                case Op.NEW:
                    return makeObject(a, frame);
                case Op.STATIC:
                    frame.push(statics[a]);
                    return DONE;
                case Op.SET:
                    statics[a] = frame.pop();
                    return DONE;
                case Op.CALL:
                    return receive(perform(a, depth + 1), frame);
                default:
                    return DONE;
            }
        }

        private int send(int selector, int depth) {
            int object = frames[depth].second();
            if (isNull(object)) {
                return toss(NULLED);
            }
            int method = program.answering(objectTypes[object], selector);
            return receive(perform(method, depth + 1), frames[depth]);
        }

        /** A method that was run leaves what it answered to the one that ran it. */
        private int receive(int outcome, Frame frame) {
            if (outcome == DONE) {
                frame.push(value);
            }
            return outcome;
        }

        /** Parents are earlier classes, so going up the numbers meets the farthest ancestor first. */
        private int trigger(int triggered, int depth) {
            for (int type = 0; type <= triggered; type++) {
                if (program.isOf(triggered, type) && orders[type] == NONE) {
                    orders[type] = begunCount;
                    begunCount++;
                    int initialiser = program.initialiserOf(type);
                    int outcome = initialiser == NONE ? DONE : perform(initialiser, depth + 1);
                    if (outcome != DONE) {
                        return outcome;
                    }
                }
            }
            return DONE;
        }

        private int makeObject(int type, Frame frame) {
            if (objectCount >= MOST_OBJECTS) {
                return toss(MEMORY);
            }
            int first = objectCount * MOST_FIELDS;
            Arrays.fill(fields, first, first + MOST_FIELDS, 0);
            objectTypes[objectCount] = type;
            frame.push(objectCount);
            objectCount++;
            return DONE;
        }

        private boolean isNull(int object) {
            return !within(object, objectCount);
        }

        private int accessField(int op, int field, Frame frame) {
            int number = op == Op.PUT ? frame.pop() : 0;
            int object = frame.pop();
            if (isNull(object)) {
                return toss(NULLED);
            }
            int at = object * MOST_FIELDS + field;
            if (op == Op.PUT) {
                fields[at] = number;
            } else {
                frame.push(fields[at]);
            }
            return DONE;
        }

        private int testType(int op, int type, Frame frame) {
            int object = frame.pop();
            boolean fits = !isNull(object) && program.isOf(objectTypes[object], type);
            if (op == Op.ISA) {
                frame.push(fits ? 1 : 0);
                return DONE;
            }
            if (!isNull(object) && !fits) {
                return toss(MISCAST);
            }
            frame.push(object);
            return DONE;
        }

        private int calculate(int op, Frame frame) {
            int right = frame.pop();
            int left = frame.pop();
            switch (op) {
                case Op.ADD:
                    frame.push(left + right);
                    return DONE;
                case Op.SUB:
                    frame.push(left - right);
                    return DONE;
                case Op.MUL:
                    frame.push(left * right);
                    return DONE;
                default:
                    if (right == 0) {
                        return toss(DIVIDE);
                    }
                    frame.push(left / right);
                    return DONE;
            }
        }

        private void print(int number) {
            if (printCount < PRINTS_HELD) {
                heldPrints[printCount] = number;
            }
            printCount++;
        }
    }
}
