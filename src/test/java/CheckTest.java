/** Promises 7 and 8: close, with the check, and typeAt. */
public final class CheckTest {
    private static final int NONE = ClosedWorld.NONE;
    private static final int NUMBER = ClosedWorld.NUMBER;
    private static final int UNSET = ClosedWorld.UNSET;
    private static final Due DUE = new Due();

    public static void main(String[] args) {
        start();
        lowestUnsound();
        whatEachOpTakes();
        reachedMustBeThere();
        stackOfSix();
        unsetLocals();
        fieldsAndSelectors();
        sidesMustFit();
        guardsAreSides();
        onlyTheFirstGuardIsASide();
        threeGuards();
        typesAtTheStart();
        joins();
        joinsOfTheLastClass();
        sidesOfAHandler();
        leastTypesInLoops();
        unsetOnTheStack();
        typesOfWhatIsPut();
        noSuchPlace();
        DUE.end();
    }

    /** Classes 0, 1 of 0, 2 of 0, 3 of 1 and 4 alone, with 1, 2, 1, 3 and 0 fields; method 0 is plain with one argument. */
    private static ClosedWorld family() {
        ClosedWorld x = new ClosedWorld();
        x.type(NONE, 1);
        x.type(0, 1);
        x.type(0, 0);
        x.type(1, 1);
        x.type(NONE, 0);
        x.method(0, NONE, 1);
        return x;
    }

    private static int closed(String text) {
        ClosedWorld x = family();
        DUE.write(x, 0, text);
        return x.close();
    }

    private static void sound(String text) {
        DUE.is("close of " + text, closed(text), NONE);
    }

    private static void unsound(String text) {
        DUE.is("close of " + text, closed(text), 0);
    }

    private static void start() {
        for (int arguments = 0; arguments <= 2; arguments++) {
            ClosedWorld x = new ClosedWorld();
            x.type(NONE, 0);
            x.method(0, NONE, arguments);
            DUE.write(x, 0, "PUSH 1; RETURN");
            DUE.is("close: method 0 with " + arguments, x.close(), arguments == 1 ? NONE : 10);
        }
        ClosedWorld x = new ClosedWorld();
        x.type(NONE, 0);
        DUE.is("close: no method", x.close(), 10);
        x.method(0, 0, 1);
        DUE.write(x, 0, "PUSH 1; RETURN");
        DUE.is("close: method 0 is not plain", x.close(), 10);
        x.method(0, NONE, 1);
        DUE.is("close: 10 comes before what is not sound", x.close(), 10);
        DUE.is("close: stays open", x.run(0, 10), NONE);
    }

    private static void lowestUnsound() {
        ClosedWorld x = DUE.world("PUSH 1; RETURN");
        x.method(0, NONE, 0);
        x.method(0, 0, 0);
        x.method(0, NONE, 0);
        DUE.is("close: 1, 2, 3 are without code", x.close(), 1);
        DUE.is("close: stays open", x.live(0), false);
        DUE.write(x, 1, "PUSH 1; RETURN");
        DUE.is("close: 2 is the lowest", x.close(), 2);
        DUE.write(x, 3, "LOAD 0; RETURN");
        DUE.is("close: 2 is the lowest of 2 and 3", x.close(), 2);
        DUE.write(x, 2, "LOAD 1; RETURN");
        DUE.is("close: 3 has no argument, and is not called", x.close(), 3);
        DUE.is("close: the same again", x.close(), 3);
    }

    private static void whatEachOpTakes() {
        String number = "PUSH 1; ";
        String object = "NULL 0; ";
        String[] ofOneNumber = {"LE 0", "SET 0", "PRINT", "THROW", "RETURN"};
        for (String op : ofOneNumber) {
            String end = op.equals("THROW") || op.equals("RETURN") ? "" : "; PUSH 1; RETURN";
            sound(number + op + end);
            unsound(object + op + end);
            unsound(op + end);
        }
        for (String op : new String[] {"ADD", "SUB", "MUL", "DIV"}) {
            sound(number + number + op + "; RETURN");
            unsound(number + object + op + "; RETURN");
            unsound(object + number + op + "; RETURN");
            unsound(number + op + "; RETURN");
            unsound(op + "; RETURN");
        }
        for (String op : new String[] {"GET 0", "ISA 4"}) {
            sound(object + op + "; RETURN");
            unsound(number + op + "; RETURN");
            unsound(op + "; RETURN");
        }
        sound(object + "CAST 4; POP; PUSH 1; RETURN");
        unsound(number + "CAST 4; POP; PUSH 1; RETURN");
        unsound("CAST 4; POP; PUSH 1; RETURN");
        sound(object + number + "PUT 0; PUSH 1; RETURN");
        unsound(number + number + "PUT 0; PUSH 1; RETURN");
        unsound(object + object + "PUT 0; PUSH 1; RETURN");
        unsound(number + "PUT 0; PUSH 1; RETURN");
        for (String op : new String[] {"POP", "STORE 3"}) {
            sound(number + op + "; PUSH 1; RETURN");
            sound(object + op + "; PUSH 1; RETURN");
            unsound(op + "; PUSH 1; RETURN");
        }
        sound(number + "CALL 0; RETURN");
        unsound(object + "CALL 0; RETURN");
        unsound("CALL 0; RETURN");
        sound("STATIC 0; RETURN");
        unsound("NEW 0; RETURN");
        callsWithTwo();
    }

    private static void callsWithTwo() {
        String[] texts = {"PUSH 1; PUSH 2; CALL 1; RETURN", "PUSH 1; CALL 1; RETURN", "NULL 0; PUSH 2; CALL 1; RETURN"};
        int[] wants = {NONE, 0, 0};
        for (int k = 0; k < texts.length; k++) {
            ClosedWorld x = family();
            x.method(0, NONE, 2);
            DUE.write(x, 1, "PUSH 1; RETURN");
            DUE.write(x, 0, texts[k]);
            DUE.is("close of " + texts[k], x.close(), wants[k]);
        }
    }

    private static void reachedMustBeThere() {
        unsound("PUSH 1");
        unsound("JUMP 1");
        unsound("PUSH 1; JUMP 7; RETURN");
        unsound("PUSH 1; LE 19; PUSH 1; RETURN");
        sound("PUSH 1; RETURN; ADD; POP");
        sound("JUMP 2; ADD; PUSH 1; RETURN");
        sound("JUMP 0");
        sound("PUSH 1; THROW; PRINT; JUMP 19");
        sound("PUSH 1; RETURN; JUMP 15");
        StringBuilder full = new StringBuilder("JUMP 0");
        for (int k = 1; k < 20; k++) {
            full.append("; JUMP ").append(k == 19 ? 0 : 19);
        }
        sound(full.toString());
        StringBuilder over = new StringBuilder("PUSH 1; POP");
        for (int k = 1; k < 10; k++) {
            over.append("; PUSH 1; POP");
        }
        unsound(over.toString());
    }

    private static void stackOfSix() {
        String five = "PUSH 1; PUSH 1; PUSH 1; PUSH 1; PUSH 1; ";
        sound(five + "PUSH 1; RETURN");
        sound(five + "NEW 0; POP; RETURN");
        sound(five + "PUSH 1; CALL 0; RETURN");
        for (String op : new String[] {"PUSH 1", "NULL 0", "LOAD 0", "NEW 0", "STATIC 0"}) {
            unsound(five + "PUSH 1; " + op + "; POP; RETURN");
            sound(five + op + "; POP; RETURN");
        }
        ClosedWorld x = family();
        x.method(0, NONE, 0);
        DUE.write(x, 1, "PUSH 1; RETURN");
        DUE.write(x, 0, five + "PUSH 1; CALL 1; RETURN");
        DUE.is("close: a call puts a seventh", x.close(), 0);
    }

    private static void unsetLocals() {
        sound("LOAD 0; RETURN");
        unsound("LOAD 1; POP; PUSH 1; RETURN");
        sound("PUSH 1; STORE 3; LOAD 3; RETURN");
        unsound("LOAD 0; LE 4; PUSH 1; STORE 2; LOAD 2; RETURN");
        unsound("LOAD 0; LE 5; PUSH 1; STORE 2; JUMP 7; NULL 0; STORE 2; LOAD 2; POP; PUSH 1; RETURN");
        sound("LOAD 0; LE 5; PUSH 1; STORE 2; JUMP 7; NULL 0; STORE 2; PUSH 1; RETURN");
        unsound("LOAD 0; LE 5; NULL 4; STORE 2; JUMP 7; NULL 0; STORE 2; LOAD 2; POP; PUSH 1; RETURN");
    }

    private static void fieldsAndSelectors() {
        sound("NULL 0; GET 0; RETURN");
        unsound("NULL 0; GET 1; RETURN");
        sound("NULL 1; GET 1; RETURN");
        sound("NULL 3; GET 2; RETURN");
        unsound("NULL 3; GET 3; RETURN");
        unsound("NULL 4; GET 0; RETURN");
        sound("NULL 0; CAST 3; GET 2; RETURN");
        unsound("NULL 3; CAST 0; GET 2; RETURN");
        unsound("NULL 2; PUSH 1; PUT 1; PUSH 1; RETURN");
        sound("NULL 3; PUSH 1; PUT 2; PUSH 1; RETURN");
        int[] wants = {0, NONE, 0, NONE, 0};
        for (int type = 0; type < 5; type++) {
            ClosedWorld x = family();
            x.method(1, 2, 0);
            DUE.write(x, 1, "LOAD 1; RETURN");
            DUE.write(x, 0, "NULL " + type + "; PUSH 1; SEND 2; RETURN");
            DUE.is("close: SEND to class " + type, x.close(), wants[type]);
        }
        unsound("NULL 0; PUSH 1; SEND 0; RETURN");
        sends("PUSH 1; PUSH 1; SEND 2; RETURN", 0);
        sends("NULL 1; NULL 1; SEND 2; RETURN", 0);
        sends("PUSH 1; SEND 2; RETURN", 0);
        sends("SEND 2; RETURN", 0);
    }

    private static void sends(String text, int want) {
        ClosedWorld x = family();
        x.method(1, 2, 0);
        DUE.write(x, 1, "LOAD 1; RETURN");
        DUE.write(x, 0, text);
        DUE.is("close of " + text, x.close(), want);
    }

    private static void sidesMustFit() {
        unsound("LOAD 0; LE 3; PUSH 1; PUSH 1; RETURN");
        unsound("LOAD 0; JUMP 0");
        sound("LOAD 0; POP; JUMP 0");
        unsound("PUSH 1; LOAD 0; LE 0; RETURN");
        sound("PUSH 1; LOAD 0; LE 1; RETURN");
    }

    private static void guardsAreSides() {
        ClosedWorld x = DUE.world("PUSH 1; RETURN; RETURN");
        DUE.is("guard over RETURN", x.guard(0, 1, 2, 2), true);
        DUE.is("close: a handler that fits", x.close(), NONE);
        DUE.is("typeAt: the handler of a RETURN is reached", x.typeAt(0, 2, 4), NUMBER);
        DUE.is("guard whose handler isn't there", x.guard(0, 0, 1, 3), true);
        DUE.is("close: the handler must be there", x.close(), 0);

        ClosedWorld size = DUE.world("PUSH 1; RETURN");
        size.guard(0, 0, 1, 0);
        DUE.is("close: the handler's stack has one value", size.close(), 0);

        ClosedWorld before = DUE.world("PUSH 1; STORE 2; LOAD 2; RETURN; POP; LOAD 2; RETURN");
        before.guard(0, 1, 2, 4);
        DUE.is("close: the locals as they were before STORE", before.close(), 0);
        ClosedWorld after = DUE.world("PUSH 1; STORE 2; LOAD 2; RETURN; POP; LOAD 2; RETURN");
        after.guard(0, 2, 3, 4);
        DUE.is("close: the locals behind STORE", after.close(), NONE);

        ClosedWorld unreached = DUE.world("PUSH 1; RETURN; PUSH 1; RETURN");
        unreached.guard(0, 2, 20, 19);
        DUE.is("close: a guard over what is not reached", unreached.close(), NONE);
    }

    private static void onlyTheFirstGuardIsASide() {
        ClosedWorld x = DUE.world("PUSH 1; RETURN; RETURN; RETURN");
        x.guard(0, 0, 1, 2);
        x.guard(0, 0, 1, 3);
        DUE.is("first guard: close", x.close(), NONE);
        DUE.is("first guard: its handler is reached", x.typeAt(0, 2, 4), NUMBER);
        DUE.is("first guard: that of the second is not", x.typeAt(0, 3, 4), NONE);
    }

    private static void threeGuards() {
        ClosedWorld x = DUE.world("PUSH 1; RETURN; RETURN; RETURN; RETURN; PUSH 1; RETURN");
        x.guard(0, 5, 6, 2);
        x.guard(0, 0, 1, 3);
        x.guard(0, 1, 2, 4);
        DUE.is("three guards: close", x.close(), NONE);
        DUE.is("three guards: the first is over nothing", x.typeAt(0, 2, 4), NONE);
        DUE.is("three guards: the second", x.typeAt(0, 3, 4), NUMBER);
        DUE.is("three guards: the third", x.typeAt(0, 4, 4), NUMBER);
        DUE.is("three guards: run", x.run(0, 10), 0);
    }

    private static void typesAtTheStart() {
        ClosedWorld x = family();
        x.method(1, 0, 9);
        x.method(3, NONE, 2);
        x.method(3, NONE, 0);
        for (int method = 0; method < 4; method++) {
            DUE.write(x, method, "PUSH 1; RETURN");
        }
        DUE.is("start: typeAt before close", x.typeAt(0, 0, 0), NONE);
        DUE.is("start: close", x.close(), NONE);
        int[][] wants = {
            {NUMBER, UNSET, UNSET, UNSET}, {1, NUMBER, UNSET, UNSET}, {NUMBER, NUMBER, UNSET, UNSET},
            {UNSET, UNSET, UNSET, UNSET}};
        for (int method = 0; method < 4; method++) {
            for (int place = 0; place < 4; place++) {
                DUE.is("start: typeAt " + method + " " + place, x.typeAt(method, 0, place), wants[method][place]);
            }
            DUE.is("start: the stack is empty", x.typeAt(method, 0, 4), NONE);
        }
    }

    /** The type in local 1 and on the stack where two sides meet, one with each class. */
    private static void joins() {
        int[][] wants = {
            {0, 0, 0}, {0, 1, 0}, {1, 2, 0}, {3, 1, 1}, {1, 3, 1}, {3, 2, 0}, {3, 3, 3}, {4, 4, 4}, {0, 4, UNSET},
            {3, 4, UNSET}};
        for (int[] want : wants) {
            ClosedWorld x = family();
            DUE.write(x, 0, "LOAD 0; LE 6; NULL " + want[0] + "; STORE 1; NULL " + want[0] + "; JUMP 9; NULL "
                    + want[1] + "; STORE 1; NULL " + want[1] + "; POP; PUSH 1; RETURN");
            DUE.is("join: close", x.close(), NONE);
            DUE.is("join: local of " + want[0] + " and " + want[1], x.typeAt(0, 9, 1), want[2]);
            DUE.is("join: stack of " + want[0] + " and " + want[1], x.typeAt(0, 9, 4), want[2]);
            DUE.is("join: behind", x.typeAt(0, 10, 1), want[2]);
            DUE.is("join: each side has its own", x.typeAt(0, 4, 1), want[0]);
            DUE.is("join: and the other", x.typeAt(0, 8, 1), want[1]);
        }
        ClosedWorld x = DUE.world("LOAD 0; LE 5; PUSH 1; STORE 0; JUMP 7; NULL 0; STORE 0; PUSH 1; RETURN");
        DUE.is("join: close", x.close(), NONE);
        DUE.is("join: a number and a class", x.typeAt(0, 7, 0), UNSET);
        DUE.is("join: unset and unset", x.typeAt(0, 7, 1), UNSET);
    }

    private static void joinsOfTheLastClass() {
        ClosedWorld x = new ClosedWorld();
        for (int type = 0; type < 6; type++) {
            x.type(NONE, 0);
        }
        x.method(0, NONE, 1);
        DUE.write(x, 0, "LOAD 0; LE 4; NEW 5; JUMP 5; NULL 5; STORE 0; PUSH 1; RETURN");
        DUE.is("last class: close", x.close(), NONE);
        DUE.is("last class: 5 and 5", x.typeAt(0, 6, 0), 5);
        ClosedWorld deep = new ClosedWorld();
        for (int type = 0; type < 6; type++) {
            deep.type(type - 1, 0);
        }
        deep.method(0, NONE, 1);
        DUE.write(deep, 0, "NEW 5; STORE 0; PUSH 1; LE 2; LOAD 0; CAST 4; STORE 0; JUMP 2");
        DUE.is("deep class: close", deep.close(), NONE);
        DUE.is("deep class: 5 and 4", deep.typeAt(0, 2, 0), 4);
        DUE.is("deep class: in front", deep.typeAt(0, 1, 4), 5);
    }

    /** A handler is reached with the locals of each instruction in the range, not with those of another path. */
    private static void sidesOfAHandler() {
        ClosedWorld x = family();
        DUE.write(x, 0, "LOAD 0; LE 7; NEW 3; STORE 0; STATIC 0; RETURN; RETURN; NEW 2; STORE 0; STATIC 1; RETURN; "
                + "STORE 1; PUSH 1; RETURN");
        x.guard(0, 4, 5, 6);
        x.guard(0, 9, 10, 11);
        DUE.is("handler: close", x.close(), NONE);
        DUE.is("handler: of the one path", x.typeAt(0, 6, 0), 3);
        DUE.is("handler: of the other", x.typeAt(0, 11, 0), 2);
        DUE.is("handler: its number", x.typeAt(0, 12, 1), NUMBER);

        ClosedWorld jumped = family();
        DUE.write(jumped, 0, "LOAD 0; LE 6; NEW 3; STORE 0; PUSH 1; RETURN; PUSH 1; RETURN; RETURN");
        jumped.guard(0, 6, 7, 8);
        DUE.is("jumped to: close", jumped.close(), NONE);
        DUE.is("jumped to: local 0 behind it", jumped.typeAt(0, 7, 0), NUMBER);
        DUE.is("jumped to: local 0 at its handler", jumped.typeAt(0, 8, 0), NUMBER);
        DUE.is("jumped to: local 0 of the other path", jumped.typeAt(0, 5, 0), 3);

        ClosedWorld back = family();
        DUE.write(back, 0, "LOAD 0; LE 3; JUMP 6; NEW 3; STORE 0; JUMP 6; PUSH 1; RETURN; LOAD 0; POP; RETURN");
        DUE.is("sides: close", back.close(), NONE);
        DUE.is("sides: local 0 of both", back.typeAt(0, 6, 0), UNSET);
        DUE.is("sides: local 0 of one", back.typeAt(0, 2, 0), NUMBER);
        DUE.is("sides: local 0 of the other", back.typeAt(0, 5, 0), 3);
    }

    private static void leastTypesInLoops() {
        ClosedWorld x = family();
        DUE.write(x, 0, "NEW 3; STORE 1; LOAD 0; LE 8; LOAD 1; CAST 1; STORE 1; JUMP 2; LOAD 1; GET 1; RETURN");
        DUE.is("loop: close", x.close(), NONE);
        DUE.is("loop: joined where it comes back", x.typeAt(0, 2, 1), 1);
        DUE.is("loop: exact in front of it", x.typeAt(0, 1, 4), 3);
        DUE.is("loop: behind it", x.typeAt(0, 8, 1), 1);

        ClosedWorld same = family();
        DUE.write(same, 0, "NEW 3; STORE 1; LOAD 0; LE 6; LOAD 1; JUMP 7; LOAD 1; STORE 1; JUMP 2");
        DUE.is("loop: close", same.close(), NONE);
        DUE.is("loop: what stays exact is exact", same.typeAt(0, 2, 1), 3);

        ClosedWorld first = family();
        DUE.write(first, 0, "LOAD 0; LE 5; NULL 0; STORE 2; JUMP 0; PUSH 1; RETURN");
        DUE.is("loop to 0: close", first.close(), NONE);
        DUE.is("loop to 0: the start is a side too", first.typeAt(0, 0, 2), UNSET);
        DUE.is("loop to 0: local 0", first.typeAt(0, 0, 0), NUMBER);

        unsound("PUSH 5; STORE 0; LOAD 0; LE 6; NULL 0; JUMP 7; NULL 4; STORE 0; JUMP 2");
        unsound("NEW 3; STORE 1; LOAD 1; GET 2; LE 8; NEW 1; STORE 1; JUMP 2; PUSH 1; RETURN");
        sound("NEW 3; STORE 1; LOAD 1; GET 1; LE 8; NEW 1; STORE 1; JUMP 2; PUSH 1; RETURN");
    }

    private static void unsetOnTheStack() {
        String meet = "LOAD 0; LE 4; PUSH 1; JUMP 5; NULL 0; ";
        sound(meet + "POP; PUSH 1; RETURN");
        sound(meet + "STORE 2; PUSH 1; RETURN");
        unsound(meet + "STORE 2; LOAD 2; RETURN");
        unsound(meet + "RETURN");
        unsound(meet + "ISA 0; RETURN");
        ClosedWorld x = family();
        DUE.write(x, 0, meet + "STORE 0; PUSH 1; RETURN");
        DUE.is("unset: close", x.close(), NONE);
        DUE.is("unset: on the stack", x.typeAt(0, 5, 4), UNSET);
        DUE.is("unset: stored", x.typeAt(0, 6, 0), UNSET);
    }

    private static void typesOfWhatIsPut() {
        ClosedWorld x = family();
        x.method(0, 1, 0);
        DUE.write(x, 1, "LOAD 0; STORE 1; LOAD 1; POP; PUSH 1; RETURN");
        DUE.write(x, 0, "NEW 3; CAST 2; LOAD 0; SEND 1; NULL 4; ISA 1; ADD; STATIC 2; DIV; CALL 0; STORE 3; NEW 1; "
                + "GET 1; RETURN");
        DUE.is("put: close", x.close(), NONE);
        DUE.is("put: NEW", x.typeAt(0, 1, 4), 3);
        DUE.is("put: CAST", x.typeAt(0, 2, 4), 2);
        DUE.is("put: LOAD", x.typeAt(0, 3, 5), NUMBER);
        DUE.is("put: SEND", x.typeAt(0, 4, 4), NUMBER);
        DUE.is("put: SEND takes two", x.typeAt(0, 4, 5), NONE);
        DUE.is("put: NULL", x.typeAt(0, 5, 5), 4);
        DUE.is("put: ISA", x.typeAt(0, 6, 5), NUMBER);
        DUE.is("put: ADD", x.typeAt(0, 7, 4), NUMBER);
        DUE.is("put: STATIC", x.typeAt(0, 8, 5), NUMBER);
        DUE.is("put: CALL", x.typeAt(0, 10, 4), NUMBER);
        DUE.is("put: STORE", x.typeAt(0, 11, 3), NUMBER);
        DUE.is("put: STORE takes", x.typeAt(0, 11, 4), NONE);
        DUE.is("put: GET", x.typeAt(0, 13, 4), NUMBER);
        DUE.is("put: LOAD of the receiver", x.typeAt(1, 1, 4), 0);
        DUE.is("put: STORE of the receiver", x.typeAt(1, 2, 1), 0);
    }

    private static void noSuchPlace() {
        ClosedWorld x = family();
        DUE.write(x, 0, "PUSH 1; PUSH 1; PUSH 1; PUSH 1; PUSH 1; PUSH 1; RETURN; ADD; RETURN");
        DUE.is("place: close", x.close(), NONE);
        for (int at = 0; at <= 6; at++) {
            for (int place = 4; place <= 10; place++) {
                DUE.is("place: " + at + " " + place, x.typeAt(0, at, place), place < 4 + at ? NUMBER : NONE);
            }
        }
        DUE.is("place: -1", x.typeAt(0, 6, -1), NONE);
        DUE.is("place: lowest", x.typeAt(0, 6, Integer.MIN_VALUE), NONE);
        DUE.is("place: highest", x.typeAt(0, 6, Integer.MAX_VALUE), NONE);
        DUE.is("place: not reached", x.typeAt(0, 7, 0), NONE);
        DUE.is("place: no such instruction", x.typeAt(0, 9, 0), NONE);
        DUE.is("place: instruction 20", x.typeAt(0, 20, 0), NONE);
        DUE.is("place: instruction -1", x.typeAt(0, -1, 0), NONE);
        DUE.is("place: method 1", x.typeAt(1, 0, 0), NONE);
        DUE.is("place: method -1", x.typeAt(-1, 0, 0), NONE);
        DUE.is("place: highest method", x.typeAt(Integer.MAX_VALUE, Integer.MAX_VALUE, 0), NONE);
    }
}
