/** Promises 1 to 6: a new object, type, method, initialiser, code, guard. */
public final class BuildTest {
    private static final int NONE = ClosedWorld.NONE;
    private static final Due DUE = new Due();

    public static void main(String[] args) {
        newObject();
        types();
        manyTypes();
        methods();
        initialisers();
        initialiserInPlaceOfAnother();
        codeOperands();
        codeLength();
        guards();
        guardOrder();
        changesReopen();
        refusalsChangeNothing();
        DUE.end();
    }

    private static void newObject() {
        ClosedWorld x = new ClosedWorld();
        DUE.is("new: close", x.close(), 10);
        DUE.is("new: answer", x.answer(0, 0), NONE);
        DUE.is("new: slot", x.slot(0, 0), NONE);
        DUE.is("new: typeAt", x.typeAt(0, 0, 0), NONE);
        DUE.is("new: live", x.live(0), false);
        DUE.is("new: targets", x.targets(0, 0), NONE);
        DUE.is("new: run", x.run(0, 10), NONE);
        DUE.is("new: result", x.result(), 0);
        DUE.is("new: steps", x.steps(), NONE);
        DUE.is("new: prints", x.prints(), NONE);
        DUE.is("new: printed", x.printed(0), 0);
        DUE.is("new: begun", x.begun(0), NONE);
        DUE.is("new: objects", x.objects(), NONE);
        DUE.is("new: kept", x.kept(0), 0);
        DUE.is("new: method without a class", x.method(0, NONE, 1), NONE);
        DUE.is("new: code without a method", x.code(0, 0, 1), NONE);
        DUE.is("new: guard without a method", x.guard(0, 0, 1, 0), false);
        DUE.is("new: initialiser", x.initialiser(0, 0), false);
    }

    private static void types() {
        ClosedWorld x = new ClosedWorld();
        DUE.is("type: parent not there", x.type(0, 0), NONE);
        DUE.is("type: parent -2", x.type(-2, 0), NONE);
        DUE.is("type: fields -1", x.type(NONE, -1), NONE);
        DUE.is("type: lowest fields", x.type(NONE, Integer.MIN_VALUE), NONE);
        DUE.is("type: 7 fields", x.type(NONE, 7), NONE);
        DUE.is("type: 4 fields", x.type(NONE, 4), 0);
        DUE.is("type: 4 + 3 fields", x.type(0, 3), NONE);
        DUE.is("type: fields that wrap", x.type(0, Integer.MAX_VALUE), NONE);
        DUE.is("type: its own parent", x.type(1, 0), NONE);
        DUE.is("type: 4 + 2 fields", x.type(0, 2), 1);
        DUE.is("type: 6 + 1 fields", x.type(1, 1), NONE);
        DUE.is("type: 6 + 0 fields", x.type(1, 0), 2);
        DUE.is("type: highest parent", x.type(Integer.MAX_VALUE, 0), NONE);
        DUE.is("type: lowest parent", x.type(Integer.MIN_VALUE, 0), NONE);
    }

    private static void manyTypes() {
        ClosedWorld x = new ClosedWorld();
        for (int k = 0; k < 6; k++) {
            DUE.is("type: class " + k, x.type(k - 1, 1), k);
        }
        DUE.is("type: a seventh", x.type(NONE, 0), NONE);
    }

    private static void methods() {
        ClosedWorld x = new ClosedWorld();
        x.type(NONE, 0);
        x.type(0, 0);
        DUE.is("method: class not there", x.method(2, NONE, 0), NONE);
        DUE.is("method: class -1", x.method(-1, NONE, 0), NONE);
        DUE.is("method: selector -2", x.method(0, -2, 0), NONE);
        DUE.is("method: selector 4", x.method(0, 4, 0), NONE);
        DUE.is("method: -1 arguments", x.method(0, NONE, -1), NONE);
        DUE.is("method: 3 arguments", x.method(0, NONE, 3), NONE);
        DUE.is("method: plain 0", x.method(0, NONE, 0), 0);
        DUE.is("method: plain 2", x.method(0, NONE, 2), 1);
        DUE.is("method: selector 3, arguments not looked at", x.method(0, 3, -9), 2);
        DUE.is("method: the same selector in the class", x.method(0, 3, 1), NONE);
        DUE.is("method: the same selector below", x.method(1, 3, 1), 3);
        DUE.is("method: selector 0", x.method(0, 0, 77), 4);
        DUE.is("method: plain once more in the class", x.method(0, NONE, 0), 5);
        DUE.is("method 6", x.method(1, 0, 0), 6);
        DUE.is("method 7", x.method(1, 1, 0), 7);
        DUE.is("method 8", x.method(1, 2, 0), 8);
        DUE.is("method 9", x.method(1, NONE, 1), 9);
        DUE.is("method: an eleventh", x.method(1, NONE, 1), NONE);
        DUE.is("method: without code", x.code(9, 0, 0), 0);
    }

    private static void initialisers() {
        ClosedWorld x = new ClosedWorld();
        x.type(NONE, 0);
        x.type(NONE, 0);
        x.method(0, NONE, 1);
        x.method(0, NONE, 0);
        x.method(0, 1, 0);
        x.method(0, NONE, 2);
        DUE.is("initialiser: of any class", x.initialiser(1, 1), true);
        DUE.is("initialiser: of its class", x.initialiser(0, 1), true);
        DUE.is("initialiser: to what it is", x.initialiser(0, 1), true);
        DUE.is("initialiser: one argument", x.initialiser(0, 0), false);
        DUE.is("initialiser: two arguments", x.initialiser(0, 3), false);
        DUE.is("initialiser: not plain", x.initialiser(0, 2), false);
        DUE.is("initialiser: no method", x.initialiser(0, 4), false);
        DUE.is("initialiser: method -1", x.initialiser(0, -1), false);
        DUE.is("initialiser: no class", x.initialiser(2, 1), false);
        DUE.is("initialiser: class -1", x.initialiser(-1, 1), false);
    }

    private static void initialiserInPlaceOfAnother() {
        ClosedWorld x = DUE.world("PUSH 0; RETURN");
        x.method(0, NONE, 0);
        x.method(0, NONE, 0);
        DUE.write(x, 1, "PUSH 1; PRINT; PUSH 0; RETURN");
        DUE.write(x, 2, "PUSH 2; PRINT; PUSH 0; RETURN");
        x.initialiser(0, 1);
        x.initialiser(0, 2);
        DUE.is("initialiser: close", x.close(), NONE);
        DUE.is("initialiser: the first one is not live", x.live(1), false);
        DUE.is("initialiser: the second one is", x.live(2), true);
        DUE.is("initialiser: run", x.run(0, 100), 0);
        DUE.is("initialiser: prints", x.prints(), 1);
        DUE.is("initialiser: printed", x.printed(0), 2);
    }

    private static void codeOperands() {
        ClosedWorld x = new ClosedWorld();
        x.type(NONE, 0);
        x.type(NONE, 0);
        x.method(0, NONE, 1);
        x.method(0, 1, 0);
        x.method(1, NONE, 0);
        int[][] bounds = {
            {1, 2}, {11, 2}, {14, 2}, {15, 2}, {18, 2}, {19, 2}, {2, 4}, {3, 4}, {9, 20}, {10, 20},
            {12, 6}, {13, 6}, {16, 1}, {17, 4}};
        for (int[] bound : bounds) {
            String op = "code: op " + bound[0] + " with ";
            DUE.is(op + "-1", x.code(2, bound[0], -1), NONE);
            DUE.is(op + "the lowest", x.code(2, bound[0], Integer.MIN_VALUE), NONE);
            DUE.is(op + "the highest", x.code(2, bound[0], Integer.MAX_VALUE), NONE);
            DUE.is(op + bound[1], x.code(0, bound[0], bound[1]), NONE);
        }
        int at = 0;
        for (int[] bound : bounds) {
            DUE.is("code: op " + bound[0] + " with the last it may", x.code(0, bound[0], bound[1] - 1), at++);
        }
        for (int op : new int[] {0, 4, 5, 20, 21}) {
            DUE.is("code: op " + op + " with anything", x.code(0, op, Integer.MIN_VALUE + op), at++);
        }
        DUE.is("code: a method that is not plain", x.code(2, 16, 1), NONE);
        DUE.is("code: a method that is not there", x.code(2, 16, 3), NONE);
        DUE.is("code: op -1", x.code(2, -1, 0), NONE);
        DUE.is("code: op 23", x.code(2, 23, 0), NONE);
        DUE.is("code: method -1", x.code(-1, 0, 0), NONE);
        DUE.is("code: method 3", x.code(3, 0, 0), NONE);
        DUE.is("code: nothing of all that was taken", x.code(2, 22, 7), 0);
    }

    private static void codeLength() {
        ClosedWorld x = new ClosedWorld();
        x.type(NONE, 0);
        x.method(0, NONE, 1);
        x.method(0, NONE, 1);
        for (int k = 0; k < 20; k++) {
            DUE.is("code: instruction " + k, x.code(0, 9, 19 - k), k);
        }
        DUE.is("code: a twenty-first", x.code(0, 0, 0), NONE);
        DUE.is("code: another method has its own", x.code(1, 0, 0), 0);
    }

    private static void guards() {
        ClosedWorld x = new ClosedWorld();
        x.type(NONE, 0);
        x.method(0, NONE, 1);
        DUE.is("guard: no method", x.guard(1, 0, 1, 0), false);
        DUE.is("guard: method -1", x.guard(-1, 0, 1, 0), false);
        DUE.is("guard: from -1", x.guard(0, -1, 1, 0), false);
        DUE.is("guard: from is to", x.guard(0, 3, 3, 0), false);
        DUE.is("guard: from above to", x.guard(0, 4, 3, 0), false);
        DUE.is("guard: to 21", x.guard(0, 0, 21, 0), false);
        DUE.is("guard: handler -1", x.guard(0, 0, 1, -1), false);
        DUE.is("guard: handler 20", x.guard(0, 0, 1, 20), false);
        DUE.is("guard: the widest", x.guard(0, 0, 20, 19), true);
        DUE.is("guard: the last one there may be", x.guard(0, 19, 20, 0), true);
        DUE.is("guard: a third", x.guard(0, 0, 1, 0), true);
        DUE.is("guard: a fourth", x.guard(0, 0, 1, 0), false);
    }

    private static void guardOrder() {
        ClosedWorld x = DUE.world("PUSH 1; THROW; RETURN; POP; PUSH 70; RETURN; POP; PUSH 60; RETURN");
        DUE.is("guard: first", x.guard(0, 1, 2, 6), true);
        DUE.is("guard: second, over it too", x.guard(0, 0, 2, 3), true);
        DUE.is("guard order: close", x.close(), NONE);
        DUE.is("guard order: run", x.run(0, 100), 0);
        DUE.is("guard order: the first given", x.result(), 60);
    }

    /** Each change, also to what it is, opens the program and takes the run away. */
    private static void changesReopen() {
        for (int change = 0; change < 5; change++) {
            ClosedWorld x = DUE.world("PUSH 5; PRINT; PUSH 7; RETURN");
            x.method(0, NONE, 0);
            DUE.write(x, 1, "PUSH 0; RETURN");
            x.initialiser(0, 1);
            DUE.is("change: close", x.close(), NONE);
            DUE.is("change: run", x.run(0, 100), 0);
            DUE.is("change: result before", x.result(), 7);
            change(x, change);
            DUE.is("change " + change + ": result", x.result(), 0);
            DUE.is("change " + change + ": steps", x.steps(), NONE);
            DUE.is("change " + change + ": prints", x.prints(), NONE);
            DUE.is("change " + change + ": printed", x.printed(0), 0);
            DUE.is("change " + change + ": begun", x.begun(0), NONE);
            DUE.is("change " + change + ": objects", x.objects(), NONE);
            DUE.is("change " + change + ": live", x.live(0), false);
            DUE.is("change " + change + ": typeAt", x.typeAt(0, 0, 0), NONE);
            DUE.is("change " + change + ": run", x.run(0, 100), NONE);
        }
    }

    private static void change(ClosedWorld x, int which) {
        switch (which) {
            case 0 -> DUE.is("change: type", x.type(NONE, 0), 1);
            case 1 -> DUE.is("change: method", x.method(0, NONE, 0), 2);
            case 2 -> DUE.is("change: initialiser", x.initialiser(0, 1), true);
            case 3 -> DUE.is("change: code", x.code(0, 22, 0), 4);
            default -> DUE.is("change: guard", x.guard(0, 0, 1, 3), true);
        }
    }

    private static void refusalsChangeNothing() {
        ClosedWorld x = DUE.world("PUSH 5; PRINT; PUSH 7; RETURN");
        DUE.is("refused: close", x.close(), NONE);
        DUE.is("refused: run", x.run(0, 100), 0);
        DUE.is("refused: type", x.type(1, 0), NONE);
        DUE.is("refused: method", x.method(0, 4, 0), NONE);
        DUE.is("refused: initialiser", x.initialiser(0, 0), false);
        DUE.is("refused: code", x.code(0, 2, 4), NONE);
        DUE.is("refused: guard", x.guard(0, 0, 0, 0), false);
        DUE.is("refused: a run with too much fuel", x.run(0, 2001), NONE);
        DUE.is("refused: a run with fuel below 0", x.run(0, -1), NONE);
        DUE.is("refused: result", x.result(), 7);
        DUE.is("refused: steps", x.steps(), 4);
        DUE.is("refused: printed", x.printed(0), 5);
        DUE.is("refused: live", x.live(0), true);
        DUE.is("refused: close once more", x.close(), NONE);
        DUE.is("refused: the run stays", x.steps(), 4);
    }
}
