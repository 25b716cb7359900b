/** Promise 13, run: what each op does, throwing, triggering, fuel and bounds. */
public final class RunTest {
    private static final int NONE = ClosedWorld.NONE;
    private static final Due DUE = new Due();

    public static void main(String[] args) {
        refused();
        reckoning();
        jumps();
        localsAndStack();
        objectsAndFields();
        objectsAreNew();
        casts();
        arguments();
        receivers();
        nulls();
        handlers();
        handlersSeeLocals();
        throwsThroughMethods();
        triggering();
        triggeringOnce();
        initialiserThrows();
        startTriggered();
        startInitialiserThrows();
        triggeredBeforeTheRest();
        setTriggersBeforeItSets();
        memory();
        memoryAfterTriggering();
        deep();
        deepForSends();
        deepForInitialisers();
        deepAfterTriggering();
        nullBeforeDeep();
        startIsNotRunningWhenTriggered();
        leftOnTheStack();
        fuel();
        fuelInInitialisers();
        eachRunIsNew();
        manyRunsCutShort();
        DUE.end();
    }

    private static void runs(ClosedWorld x, String what, int argument, int end, int result) {
        DUE.is(what + ": run", x.run(argument, 2000), end);
        DUE.is(what + ": result", x.result(), result);
    }

    private static void closes(ClosedWorld x, String what) {
        DUE.is(what + ": close", x.close(), NONE);
    }

    private static void answers(String text, int argument, int result) {
        ClosedWorld x = DUE.world(text);
        closes(x, text);
        runs(x, text, argument, 0, result);
    }

    private static void tosses(String text, int argument, int result) {
        ClosedWorld x = DUE.world(text);
        closes(x, text);
        runs(x, text, argument, 1, result);
    }

    private static void refused() {
        ClosedWorld x = DUE.world("LOAD 0; RETURN");
        DUE.is("refused: not closed", x.run(1, 10), NONE);
        closes(x, "refused");
        DUE.is("refused: fuel -1", x.run(1, -1), NONE);
        DUE.is("refused: fuel 2001", x.run(1, 2001), NONE);
        DUE.is("refused: no run", x.steps(), NONE);
        DUE.is("refused: fuel 2000", x.run(1, 2000), 0);
        DUE.is("refused: highest fuel", x.run(2, Integer.MAX_VALUE), NONE);
        DUE.is("refused: lowest fuel", x.run(2, Integer.MIN_VALUE), NONE);
        DUE.is("refused: the run stays", x.result(), 1);
    }

    private static void reckoning() {
        int low = Integer.MIN_VALUE;
        int high = Integer.MAX_VALUE;
        answers("LOAD 0; PUSH 3; ADD; RETURN", 4, 7);
        answers("LOAD 0; PUSH 1; ADD; RETURN", high, low);
        answers("LOAD 0; PUSH 3; SUB; RETURN", 10, 7);
        answers("LOAD 0; PUSH 1; SUB; RETURN", low, high);
        answers("LOAD 0; PUSH -3; MUL; RETURN", 4, -12);
        answers("LOAD 0; PUSH 65536; MUL; RETURN", 65537, 65536);
        answers("LOAD 0; PUSH 3; DIV; RETURN", 10, 3);
        answers("LOAD 0; PUSH 3; DIV; RETURN", -10, -3);
        answers("LOAD 0; PUSH -3; DIV; RETURN", 10, -3);
        answers("LOAD 0; PUSH -1; DIV; RETURN", low, low);
        tosses("LOAD 0; PUSH 0; DIV; RETURN", 10, ClosedWorld.DIVIDE);
        answers("PUSH 0; LOAD 0; DIV; RETURN", 10, 0);
        answers("PUSH -2147483648; RETURN", 0, low);
        tosses("LOAD 0; THROW", 77, 77);
        tosses("LOAD 0; THROW", 0, 0);
    }

    private static void jumps() {
        String text = "LOAD 0; LE 4; PUSH 10; RETURN; PUSH 20; RETURN";
        answers(text, 1, 10);
        answers(text, 0, 20);
        answers(text, -1, 20);
        answers(text, Integer.MIN_VALUE, 20);
        answers("JUMP 3; PUSH 1; RETURN; PUSH 2; RETURN", 0, 2);
        answers("PUSH 0; STORE 1; LOAD 0; LE 12; LOAD 1; LOAD 0; ADD; STORE 1; LOAD 0; PUSH 1; SUB; JUMP 14; LOAD 1; "
                + "RETURN; STORE 0; JUMP 2", 10, 55);
    }

    private static void localsAndStack() {
        answers("LOAD 0; STORE 3; PUSH 1; STORE 0; LOAD 3; RETURN", 9, 9);
        answers("PUSH 1; LOAD 0; POP; RETURN", 9, 1);
        answers("PUSH 1; PUSH 2; PUSH 3; PUSH 4; PUSH 5; PUSH 6; SUB; SUB; SUB; SUB; SUB; RETURN", 0, -3);
        answers("PUSH 1; PUSH 2; RETURN", 0, 2);
        answers("PUSH 7; NULL 0; POP; RETURN", 0, 7);
        answers("PUSH 7; NEW 0; POP; RETURN", 0, 7);
    }

    private static void objectsAndFields() {
        ClosedWorld x = new ClosedWorld();
        x.type(NONE, 1);
        x.type(0, 2);
        x.method(0, NONE, 1);
        DUE.write(x, 0, "NEW 1; STORE 1; NEW 1; STORE 2; LOAD 1; LOAD 0; PUT 0; LOAD 2; PUSH 8; PUT 2; "
                + "LOAD 1; GET 0; LOAD 2; GET 2; MUL; LOAD 1; GET 2; ADD; RETURN");
        closes(x, "fields");
        runs(x, "fields", 5, 0, 40);
        runs(x, "fields are 0 again", 6, 0, 48);
        DUE.is("fields: objects", x.objects(), 2);
        ClosedWorld same = new ClosedWorld();
        same.type(NONE, 1);
        same.method(0, NONE, 1);
        DUE.write(same, 0, "NEW 0; STORE 1; LOAD 1; STORE 2; LOAD 1; LOAD 0; PUT 0; LOAD 2; GET 0; RETURN");
        closes(same, "one object in two locals");
        runs(same, "one object in two locals", 5, 0, 5);
    }

    /** Each field of each object is a place of its own, and 0 at first, whatever an earlier run left there. */
    private static void objectsAreNew() {
        ClosedWorld x = new ClosedWorld();
        x.type(NONE, 6);
        x.method(0, NONE, 1);
        x.method(0, 0, 0);
        DUE.write(x, 0, "NEW 0; STORE 1; NEW 0; STORE 2; LOAD 1; LOAD 0; SEND 0; LOAD 2; LOAD 0; SEND 0; ADD; "
                + "LOAD 1; LOAD 0; SEND 0; ADD; RETURN");
        DUE.write(x, 1, "LOAD 0; GET 0; LOAD 0; GET 1; ADD; LOAD 0; GET 5; ADD; LOAD 0; LOAD 1; PUT 0; "
                + "LOAD 0; LOAD 1; PUT 1; LOAD 0; LOAD 1; PUT 5; RETURN");
        closes(x, "objects are new");
        runs(x, "objects are new", 7, 0, 21);
        runs(x, "objects are new in each run", 9, 0, 27);
    }

    private static void casts() {
        int[][] wants = {{1, 0, 1}, {1, 1, 1}, {0, 1, 0}, {2, 1, 0}, {2, 0, 1}, {3, 0, 0}, {0, 3, 0}, {4, 1, 1}};
        for (int[] want : wants) {
            ClosedWorld x = new ClosedWorld();
            x.type(NONE, 0);
            x.type(0, 0);
            x.type(0, 0);
            x.type(NONE, 0);
            x.type(1, 0);
            x.method(0, NONE, 1);
            DUE.write(x, 0, "NEW " + want[0] + "; STORE 1; LOAD 1; ISA " + want[1] + "; PRINT; NULL " + want[0]
                    + "; ISA " + want[1] + "; PRINT; NULL " + want[0] + "; CAST " + want[1] + "; POP; LOAD 1; CAST "
                    + want[1] + "; ISA " + want[0] + "; RETURN");
            closes(x, "cast");
            String what = "cast of " + want[0] + " to " + want[1];
            runs(x, what, 0, 1 - want[2], want[2] == 1 ? 1 : ClosedWorld.MISCAST);
            DUE.is(what + ": ISA", x.printed(0), want[2]);
            DUE.is(what + ": ISA of null", x.printed(1), 0);
            DUE.is(what + ": prints", x.prints(), 2);
        }
    }

    private static void arguments() {
        ClosedWorld x = new ClosedWorld();
        x.type(NONE, 0);
        x.method(0, NONE, 1);
        x.method(0, NONE, 2);
        x.method(0, NONE, 0);
        DUE.write(x, 0, "LOAD 0; PUSH 3; CALL 1; CALL 2; ADD; RETURN");
        DUE.write(x, 1, "LOAD 0; LOAD 1; SUB; RETURN");
        DUE.write(x, 2, "PUSH 100; RETURN");
        closes(x, "arguments");
        runs(x, "arguments", 10, 0, 107);
    }

    private static void receivers() {
        ClosedWorld x = new ClosedWorld();
        x.type(NONE, 1);
        x.type(0, 0);
        x.type(1, 0);
        x.method(0, NONE, 1);
        x.method(0, 2, 0);
        x.method(1, 2, 0);
        DUE.write(x, 1, "PUSH 1; RETURN");
        DUE.write(x, 2, "LOAD 0; GET 0; LOAD 1; SUB; RETURN");
        DUE.write(x, 0, "LOAD 0; LE 5; NEW 2; STORE 1; JUMP 7; NEW 0; STORE 1; LOAD 1; PUSH 50; PUT 0; LOAD 1; PUSH 8; "
                + "SEND 2; RETURN");
        closes(x, "receivers");
        runs(x, "receivers: the nearest method above class 2", 1, 0, 42);
        runs(x, "receivers: class 0 has its own", 0, 0, 1);
    }

    private static void nulls() {
        for (String text : new String[] {"NULL 0; GET 0; RETURN", "NULL 0; PUSH 1; PUT 0; PUSH 1; RETURN",
            "NULL 0; PUSH 1; SEND 0; RETURN"}) {
            ClosedWorld x = new ClosedWorld();
            x.type(NONE, 1);
            x.method(0, NONE, 1);
            x.method(0, 0, 0);
            DUE.write(x, 1, "LOAD 1; RETURN");
            DUE.write(x, 0, "NEW 0; POP; " + text);
            closes(x, text);
            runs(x, text, 0, 1, ClosedWorld.NULLED);
        }
    }

    private static void handlers() {
        ClosedWorld x = DUE.world("PUSH 9; PUSH 8; LOAD 0; PUSH 0; DIV; RETURN; PUSH 100; SUB; RETURN");
        x.guard(0, 4, 5, 6);
        closes(x, "handler");
        runs(x, "handler: just the number is on the stack", 1, 0, ClosedWorld.DIVIDE - 100);
        DUE.is("handler: steps", x.steps(), 8);

        ClosedWorld outside = DUE.world("PUSH 1; POP; LOAD 0; THROW; RETURN");
        outside.guard(0, 0, 3, 4);
        outside.guard(0, 4, 20, 4);
        closes(outside, "outside");
        runs(outside, "outside of the range", 5, 1, 5);

        ClosedWorld again = DUE.world("LOAD 0; THROW; PRINT; PUSH 3; THROW; RETURN");
        again.guard(0, 1, 2, 2);
        again.guard(0, 0, 5, 5);
        closes(again, "again");
        runs(again, "a handler that throws", 5, 0, 3);
        DUE.is("a handler that throws: printed", again.printed(0), 5);
    }

    private static void handlersSeeLocals() {
        ClosedWorld x = DUE.world("PUSH 1; STORE 1; PUSH 2; STORE 1; LOAD 0; THROW; LOAD 1; ADD; RETURN");
        x.guard(0, 5, 6, 6);
        closes(x, "locals");
        runs(x, "locals as they are", 40, 0, 42);
    }

    private static void throwsThroughMethods() {
        ClosedWorld x = new ClosedWorld();
        x.type(NONE, 0);
        x.method(0, NONE, 1);
        x.method(0, NONE, 1);
        x.method(0, NONE, 1);
        DUE.write(x, 0, "PUSH 5; PUSH 6; LOAD 0; CALL 1; RETURN; PUSH 1000; ADD; RETURN");
        DUE.write(x, 1, "LOAD 0; CALL 2; PRINT; PUSH 1; RETURN");
        DUE.write(x, 2, "LOAD 0; THROW");
        x.guard(0, 3, 4, 5);
        closes(x, "through");
        runs(x, "through both", 7, 0, 1007);
        DUE.is("through: what comes behind the call is left out", x.prints(), 0);
        DUE.is("through: steps", x.steps(), 2 + 2 + 2 + 2 + 3);
    }

    /** Classes 0, 1 of 0, 2 of 1, and 3 alone with method 0; the initialiser of class k prints k. */
    private static ClosedWorld chain(String text) {
        ClosedWorld x = new ClosedWorld();
        x.type(NONE, 1);
        x.type(0, 0);
        x.type(1, 0);
        x.type(NONE, 0);
        x.method(3, NONE, 1);
        for (int type = 0; type < 3; type++) {
            x.method(3, NONE, 0);
            x.initialiser(type, type + 1);
            DUE.write(x, type + 1, "PUSH " + type + "; PRINT; PUSH 0; RETURN");
        }
        x.method(1, NONE, 0);
        DUE.write(x, 4, "PUSH 44; RETURN");
        DUE.write(x, 0, text);
        closes(x, text);
        return x;
    }

    private static void begins(ClosedWorld x, String what, int... orders) {
        for (int type = 0; type < orders.length; type++) {
            DUE.is(what + ": begun " + type, x.begun(type), orders[type]);
        }
    }

    private static void triggering() {
        ClosedWorld made = chain("NEW 2; POP; PUSH 1; RETURN");
        runs(made, "NEW", 0, 0, 1);
        begins(made, "NEW", 1, 2, 3, 0);
        for (int k = 0; k < 3; k++) {
            DUE.is("NEW: the farthest first", made.printed(k), k);
        }
        DUE.is("NEW: one step", made.steps(), 4 + 3 * 4);

        ClosedWorld read = chain("STATIC 1; RETURN");
        runs(read, "STATIC", 0, 0, 0);
        begins(read, "STATIC", 1, 2, NONE, 0);

        ClosedWorld set = chain("PUSH 5; SET 0; STATIC 0; RETURN");
        runs(set, "SET", 0, 0, 5);
        begins(set, "SET", 1, NONE, NONE, 0);

        ClosedWorld call = chain("CALL 4; RETURN");
        runs(call, "CALL", 0, 0, 44);
        begins(call, "CALL", 1, 2, NONE, 0);

        ClosedWorld not = chain("NULL 2; CAST 1; ISA 0; RETURN");
        runs(not, "NULL, CAST, ISA", 0, 0, 0);
        begins(not, "NULL, CAST, ISA", NONE, NONE, NONE, 0);
    }

    /** An initialiser that uses its own class, or one below it, finds it begun or begins it then. */
    private static void triggeringOnce() {
        ClosedWorld x = new ClosedWorld();
        x.type(NONE, 0);
        x.type(0, 0);
        x.method(0, NONE, 1);
        x.method(0, NONE, 0);
        x.method(0, NONE, 0);
        x.initialiser(0, 1);
        x.initialiser(1, 2);
        DUE.write(x, 0, "NEW 1; POP; STATIC 1; RETURN");
        DUE.write(x, 1, "PUSH 1; PRINT; STATIC 0; POP; STATIC 1; PRINT; PUSH 0; RETURN");
        DUE.write(x, 2, "PUSH 2; PRINT; PUSH 7; SET 1; PUSH 0; RETURN");
        closes(x, "once");
        runs(x, "once", 0, 0, 7);
        DUE.is("once: prints", x.prints(), 3);
        DUE.is("once: first", x.printed(0), 1);
        DUE.is("once: then the class below", x.printed(1), 2);
        DUE.is("once: and its number", x.printed(2), 7);
        begins(x, "once", 0, 1);
    }

    private static void initialiserThrows() {
        ClosedWorld x = new ClosedWorld();
        x.type(NONE, 0);
        x.type(NONE, 0);
        x.type(1, 0);
        x.method(0, NONE, 1);
        x.method(0, NONE, 0);
        x.method(0, NONE, 0);
        x.initialiser(1, 1);
        x.initialiser(2, 2);
        DUE.write(x, 0, "NEW 2; POP; PUSH 1; RETURN; PRINT; NEW 2; ISA 2; RETURN");
        DUE.write(x, 1, "PUSH 66; THROW");
        DUE.write(x, 2, "PUSH 2; PRINT; PUSH 0; RETURN");
        closes(x, "initialiser throws");
        runs(x, "initialiser throws", 0, 1, 66);
        begins(x, "initialiser throws: triggers no further", 0, 1, NONE);
        DUE.is("initialiser throws: no object", x.objects(), 0);
        x.guard(0, 0, 1, 4);
        closes(x, "initialiser throws, handled");
        runs(x, "initialiser throws, handled: begun is begun", 0, 0, 1);
        begins(x, "initialiser throws, handled", 0, 1, 2);
        DUE.is("initialiser throws, handled: printed", x.printed(0), 66);
        DUE.is("initialiser throws, handled: then", x.printed(1), 2);
        DUE.is("initialiser throws, handled: objects", x.objects(), 1);
    }

    private static void startTriggered() {
        ClosedWorld x = new ClosedWorld();
        x.type(NONE, 0);
        x.type(0, 0);
        x.method(1, NONE, 1);
        x.method(1, NONE, 0);
        x.initialiser(0, 1);
        DUE.write(x, 0, "PUSH 2; PRINT; STATIC 0; RETURN");
        DUE.write(x, 1, "PUSH 1; PRINT; PUSH 31; SET 0; PUSH 0; RETURN");
        closes(x, "start");
        runs(x, "start: its class is triggered first", 0, 0, 31);
        DUE.is("start: printed", x.printed(0), 1);
        DUE.is("start: steps", x.steps(), 10);
        begins(x, "start", 0, 1);
    }

    private static void startInitialiserThrows() {
        ClosedWorld x = DUE.world("PUSH 2; PRINT; PUSH 1; RETURN");
        x.guard(0, 0, 4, 3);
        x.method(0, NONE, 0);
        x.initialiser(0, 1);
        DUE.write(x, 1, "PUSH 13; THROW");
        DUE.is("start throws: the guard's handler fits", x.close(), NONE);
        runs(x, "start throws: no guard of method 0 is over that", 0, 1, 13);
        DUE.is("start throws: prints", x.prints(), 0);
        DUE.is("start throws: steps", x.steps(), 2);
    }

    /** The static number that STATIC puts is that behind the initialiser. */
    private static void triggeredBeforeTheRest() {
        ClosedWorld x = new ClosedWorld();
        x.type(NONE, 0);
        x.type(NONE, 0);
        x.method(0, NONE, 1);
        x.method(0, NONE, 0);
        x.initialiser(1, 1);
        DUE.write(x, 0, "STATIC 1; RETURN");
        DUE.write(x, 1, "PUSH 5; SET 1; PUSH 0; RETURN");
        closes(x, "before the rest");
        runs(x, "before the rest", 0, 0, 5);
    }

    private static void setTriggersBeforeItSets() {
        ClosedWorld x = new ClosedWorld();
        x.type(NONE, 0);
        x.type(NONE, 0);
        x.method(0, NONE, 1);
        x.method(0, NONE, 0);
        x.initialiser(1, 1);
        DUE.write(x, 0, "LOAD 0; SET 1; STATIC 1; RETURN");
        DUE.write(x, 1, "PUSH 5; SET 1; PUSH 0; RETURN");
        closes(x, "set");
        runs(x, "set: after the initialiser's", 9, 0, 9);
        DUE.is("set: kept", x.kept(1), 9);
    }

    private static void memory() {
        ClosedWorld x = DUE.world("NEW 0; POP; LOAD 0; PUSH 1; SUB; STORE 0; LOAD 0; LE 9; JUMP 0; PUSH 1; RETURN");
        closes(x, "memory");
        runs(x, "memory: sixteen", 16, 0, 1);
        DUE.is("memory: objects", x.objects(), 16);
        runs(x, "memory: a seventeenth", 17, 1, ClosedWorld.MEMORY);
        DUE.is("memory: objects stay", x.objects(), 16);
        runs(x, "memory: the next run has none", 1, 0, 1);
        DUE.is("memory: one", x.objects(), 1);
    }

    private static void memoryAfterTriggering() {
        ClosedWorld x = new ClosedWorld();
        x.type(NONE, 0);
        x.type(NONE, 0);
        x.method(0, NONE, 1);
        DUE.write(x, 0, "NEW 0; POP; LOAD 0; PUSH 1; SUB; STORE 0; LOAD 0; LE 9; JUMP 0; NEW 1; ISA 1; RETURN");
        closes(x, "memory after triggering");
        runs(x, "memory after triggering", 16, 1, ClosedWorld.MEMORY);
        begins(x, "memory after triggering", 0, 1);
    }

    private static void deep() {
        ClosedWorld x = DUE.world("LOAD 0; LE 6; LOAD 0; PUSH 1; SUB; JUMP 8; PUSH 70; RETURN; CALL 0; RETURN");
        closes(x, "deep");
        runs(x, "deep: ten", 9, 0, 70);
        runs(x, "deep: eleven", 10, 1, ClosedWorld.DEEP);
        DUE.is("deep: steps", x.steps(), 10 * 7);
    }

    private static void deepForSends() {
        ClosedWorld x = new ClosedWorld();
        x.type(NONE, 0);
        x.method(0, NONE, 1);
        x.method(0, 0, 0);
        DUE.write(x, 0, "NEW 0; LOAD 0; SEND 0; RETURN");
        DUE.write(x, 1, "LOAD 1; LE 8; LOAD 0; LOAD 1; PUSH 1; SUB; SEND 0; RETURN; PUSH 70; RETURN");
        closes(x, "deep sends");
        runs(x, "deep sends: ten", 8, 0, 70);
        runs(x, "deep sends: eleven", 9, 1, ClosedWorld.DEEP);
    }

    /** Method 0 goes down as often as its argument says, then reads the static number of class 1. */
    private static ClosedWorld down(String bottom, boolean initialised) {
        ClosedWorld x = new ClosedWorld();
        x.type(NONE, 0);
        x.type(NONE, 0);
        x.method(0, NONE, 1);
        x.method(1, NONE, 0);
        DUE.write(x, 1, "PUSH 3; SET 1; PUSH 0; RETURN");
        if (initialised) {
            x.initialiser(1, 1);
        }
        DUE.write(x, 0, "LOAD 0; LE 7; LOAD 0; PUSH 1; SUB; CALL 0; RETURN; " + bottom + "; RETURN");
        closes(x, bottom);
        return x;
    }

    private static void deepForInitialisers() {
        ClosedWorld x = down("STATIC 1", true);
        runs(x, "deep initialiser: the tenth", 8, 0, 3);
        begins(x, "deep initialiser: the tenth", 0, 1);
        runs(x, "deep initialiser: an eleventh", 9, 1, ClosedWorld.DEEP);
        begins(x, "deep initialiser: begun before it was to run", 0, 1);
        DUE.is("deep initialiser: it did not run", x.kept(1), 0);
        DUE.is("deep initialiser: steps", x.steps(), 9 * 6 + 3);
        ClosedWorld none = down("STATIC 1", false);
        runs(none, "no initialiser, no eleventh", 9, 0, 0);
        begins(none, "no initialiser, no eleventh", 0, 1);
    }

    private static void deepAfterTriggering() {
        ClosedWorld x = down("CALL 1", false);
        runs(x, "deep after triggering", 9, 1, ClosedWorld.DEEP);
        begins(x, "deep after triggering", 0, 1);
        DUE.is("deep after triggering: kept", x.kept(1), 0);
    }

    private static void nullBeforeDeep() {
        ClosedWorld x = new ClosedWorld();
        x.type(NONE, 0);
        x.method(0, NONE, 1);
        x.method(0, 0, 0);
        DUE.write(x, 1, "LOAD 1; RETURN");
        DUE.write(x, 0, "LOAD 0; LE 7; LOAD 0; PUSH 1; SUB; CALL 0; RETURN; NULL 0; PUSH 1; SEND 0; RETURN");
        closes(x, "null before deep");
        runs(x, "null before deep", 9, 1, ClosedWorld.NULLED);
    }

    /** An initialiser of the class of method 0 has all ten to itself. */
    private static void startIsNotRunningWhenTriggered() {
        for (int down = 8; down <= 9; down++) {
            ClosedWorld x = new ClosedWorld();
            x.type(NONE, 0);
            x.method(0, NONE, 1);
            x.method(0, NONE, 0);
            x.method(0, NONE, 1);
            x.initialiser(0, 1);
            DUE.write(x, 0, "PUSH 1; RETURN");
            DUE.write(x, 1, "PUSH " + down + "; CALL 2; RETURN");
            DUE.write(x, 2, "LOAD 0; LE 7; LOAD 0; PUSH 1; SUB; CALL 2; RETURN; PUSH 0; RETURN");
            closes(x, "ten for the initialiser");
            runs(x, "ten for the initialiser, down " + down, 0, down - 8, down == 8 ? 1 : ClosedWorld.DEEP);
        }
    }

    /** What a method leaves on its stack is gone when the next one begins. */
    private static void leftOnTheStack() {
        ClosedWorld x = new ClosedWorld();
        x.type(NONE, 0);
        x.method(0, NONE, 1);
        x.method(0, NONE, 0);
        DUE.write(x, 0, "CALL 1; CALL 1; ADD; CALL 1; ADD; RETURN");
        DUE.write(x, 1, "PUSH 1; PUSH 2; PUSH 3; PUSH 4; PUSH 5; RETURN");
        closes(x, "left");
        runs(x, "left on the stack", 0, 0, 15);
        runs(x, "left on the stack, again", 0, 0, 15);
    }

    private static void fuel() {
        ClosedWorld x = DUE.world("PUSH 5; PRINT; PUSH 7; RETURN");
        closes(x, "fuel");
        for (int fuel = 0; fuel <= 5; fuel++) {
            DUE.is("fuel " + fuel + ": run", x.run(0, fuel), fuel < 4 ? 2 : 0);
            DUE.is("fuel " + fuel + ": steps", x.steps(), Math.min(fuel, 4));
            DUE.is("fuel " + fuel + ": result", x.result(), fuel < 4 ? 0 : 7);
            DUE.is("fuel " + fuel + ": prints", x.prints(), fuel < 2 ? 0 : 1);
            DUE.is("fuel " + fuel + ": begun", x.begun(0), 0);
        }
        ClosedWorld endless = DUE.world("JUMP 0");
        closes(endless, "endless");
        runs(endless, "endless", 0, 2, 0);
        DUE.is("endless: steps", endless.steps(), 2000);
        ClosedWorld thrown = DUE.world("PUSH 0; THROW");
        closes(thrown, "thrown");
        DUE.is("thrown with the last step", thrown.run(0, 2), 1);
        DUE.is("thrown: one step too few", thrown.run(0, 1), 2);
    }

    private static void fuelInInitialisers() {
        ClosedWorld x = new ClosedWorld();
        x.type(NONE, 0);
        x.type(0, 0);
        x.method(1, NONE, 1);
        x.method(0, NONE, 0);
        x.initialiser(0, 1);
        DUE.write(x, 0, "PUSH 7; RETURN; RETURN");
        x.guard(0, 0, 2, 2);
        DUE.write(x, 1, "PUSH 3; SET 0; PUSH 0; RETURN");
        closes(x, "fuel in initialisers");
        DUE.is("no fuel at all: run", x.run(0, 0), 2);
        begins(x, "no fuel at all", 0, NONE);
        DUE.is("fuel for half of it: run", x.run(0, 2), 2);
        DUE.is("fuel for half of it: kept", x.kept(0), 3);
        begins(x, "fuel for half of it", 0, NONE);
        DUE.is("fuel for all of it: run", x.run(0, 4), 2);
        begins(x, "fuel for all of it", 0, 1);
        DUE.is("fuel for both: run", x.run(0, 6), 0);
        DUE.is("fuel for both: steps", x.steps(), 6);
    }

    /** Runs that end while the class of method 0 is triggered leave nothing to the next one. */
    private static void manyRunsCutShort() {
        ClosedWorld x = DUE.world("LOAD 0; RETURN");
        x.method(0, NONE, 0);
        DUE.write(x, 1, "PUSH 0; RETURN");
        x.initialiser(0, 1);
        closes(x, "cut short");
        for (int k = 0; k < 9; k++) {
            DUE.is("cut short: run " + k, x.run(k, 1), 2);
        }
        runs(x, "cut short: the next", 50, 0, 50);
    }

    private static void eachRunIsNew() {
        ClosedWorld x = new ClosedWorld();
        x.type(NONE, 0);
        x.type(NONE, 0);
        x.method(0, NONE, 1);
        DUE.write(x, 0, "STATIC 0; PRINT; LOAD 0; LE 10; LOAD 0; SET 0; PUSH 2; SET 1; NEW 1; POP; PUSH 1; RETURN");
        closes(x, "new run");
        runs(x, "new run: first", 5, 0, 1);
        DUE.is("new run: kept 0", x.kept(0), 5);
        DUE.is("new run: kept 1", x.kept(1), 2);
        begins(x, "new run: first", 0, 1);
        runs(x, "new run: second", 0, 0, 1);
        DUE.is("new run: statics are 0", x.printed(0), 0);
        DUE.is("new run: prints", x.prints(), 1);
        DUE.is("new run: kept 0 is 0", x.kept(0), 0);
        DUE.is("new run: kept 1 is 0", x.kept(1), 0);
        DUE.is("new run: objects", x.objects(), 0);
        begins(x, "new run: second", 0, NONE);
    }
}
