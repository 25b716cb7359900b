/** The sentences of the promises 1 to 6: a new object, type, method, initialiser, code, guard. */
final class BuildSentences {
    private static final int NONE = ClosedWorld.NONE;
    private static final int LOWEST = Integer.MIN_VALUE;
    private static final int HIGHEST = Integer.MAX_VALUE;
    private static final String END = "PUSH 1; RETURN";

    private final Due due;

    BuildSentences(Due due) {
        this.due = due;
    }

    void ask() {
        newObject();
        type();
        typeRefused();
        method();
        plainOrNot();
        methodRefused();
        initialiser();
        initialiserRefused();
        code();
        codeRefused();
        operandsOfClasses();
        operandsOfLocals();
        operandsOfJumps();
        operandsOfFields();
        operandsOfCalls();
        operandsOfSends();
        guard();
        guardRefused();
    }

    private void newObject() {
        due.says("`ClosedWorld()`: No classes, no methods, not closed.");
        ClosedWorld x = new ClosedWorld();
        for (int number = 0; number < 6; number++) {
            due.is("method of class " + number, x.method(number, NONE, 1), NONE);
            due.is("class below " + number, x.type(number, 0), NONE);
            due.is("answer", x.answer(number, 0), NONE);
            due.is("slot", x.slot(number, 0), NONE);
            due.is("begun", x.begun(number), NONE);
            due.is("kept", x.kept(number), 0);
        }
        for (int number = 0; number < 10; number++) {
            due.is("code of method " + number, x.code(number, 0, 0), NONE);
            due.is("guard of method " + number, x.guard(number, 0, 1, 0), false);
            due.is("live", x.live(number), false);
            due.is("typeAt", x.typeAt(number, 0, 0), NONE);
            due.is("targets", x.targets(number, 0), NONE);
        }
        due.is("run", x.run(0, 1), NONE);
        due.is("result", x.result(), 0);
        due.is("steps", x.steps(), NONE);
        due.is("prints", x.prints(), NONE);
        due.is("printed", x.printed(0), 0);
        due.is("objects", x.objects(), NONE);
        due.is("close", x.close(), 10);
        due.is("the first class", x.type(NONE, 0), 0);
        due.is("the first method", x.method(0, NONE, 1), 0);
    }

    private void type() {
        due.says("`int type(int parent, int fields)`: A new class with so many fields of its own; answers its number.");
        for (int fields = 0; fields <= 6; fields++) {
            ClosedWorld x = new ClosedWorld();
            due.is("class 0", x.type(NONE, 0), 0);
            due.is("class 1", x.type(0, fields), 1);
            x.method(0, NONE, 1);
            for (int field = 0; field < fields; field++) {
                due.write(x, 0, "NULL 1; GET " + field + "; POP");
            }
            due.write(x, 0, END);
            due.is("with so many fields", x.close(), NONE);
            ClosedWorld more = new Maker(due).type(NONE, 0).type(0, fields)
                    .plain(0, 1, "NULL 1; GET " + Math.min(fields, 5) + "; RETURN").open();
            due.is("and with no more", more.close(), fields < 6 ? 0 : NONE);
        }
    }

    private void typeRefused() {
        due.says("NONE, refused, when there are six, parent is neither NONE nor a class, fields is below 0, or it "
                + "would have more than six fields in all.");
        ClosedWorld x = new ClosedWorld();
        for (int parent : new int[] {0, 1, 5, 6, -2, LOWEST, HIGHEST}) {
            due.is("parent " + parent, x.type(parent, 0), NONE);
        }
        for (int fields : new int[] {-1, -2, 7, 8, LOWEST, HIGHEST}) {
            due.is("fields " + fields, x.type(NONE, fields), NONE);
        }
        due.is("4 fields", x.type(NONE, 4), 0);
        for (int fields : new int[] {-1, 3, 4, 6, LOWEST, HIGHEST, HIGHEST - 3}) {
            due.is("4 and " + fields, x.type(0, fields), NONE);
        }
        due.is("itself", x.type(1, 0), NONE);
        due.is("4 and 2", x.type(0, 2), 1);
        due.is("6 and 1", x.type(1, 1), NONE);
        due.is("6 and 0", x.type(1, 0), 2);
        due.is("6 beside them", x.type(NONE, 6), 3);
        due.is("the fifth", x.type(3, 0), 4);
        due.is("the sixth", x.type(NONE, 0), 5);
        due.is("a seventh", x.type(NONE, 0), NONE);
    }

    private void method() {
        due.says("`int method(int type, int selector, int arguments)`: A new method, without code; "
                + "answers its number.");
        ClosedWorld x = new Maker(due).types(NONE, NONE).plain(0, 1, END).open();
        due.is("its number", x.method(1, NONE, 0), 1);
        due.is("without code it is not sound", x.close(), 1);
        due.is("its first instruction", x.code(1, 0, 0), 0);
        due.is("the next number", x.method(1, 0, 0), 2);
    }

    private void plainOrNot() {
        due.says("With selector NONE it is plain and has so many arguments; else arguments is not looked at.");
        for (int arguments = 0; arguments <= 2; arguments++) {
            for (int pushed = 0; pushed <= 2; pushed++) {
                ClosedWorld x = new Maker(due).types(NONE).plain(0, 1, "PUSH 1; ".repeat(pushed) + "CALL 1; RETURN")
                        .plain(0, arguments, END).open();
                due.is("CALL with " + pushed + " of " + arguments, x.close(), pushed < arguments ? 0 : NONE);
            }
        }
        ClosedWorld x = new Maker(due).types(NONE, NONE).plain(0, 1, END).open();
        int[] odd = {-1, 0, 3, LOWEST};
        for (int selector = 0; selector < 4; selector++) {
            due.is("selector " + selector, x.method(0, selector, odd[selector]), selector + 1);
            due.write(x, selector + 1, "LOAD 1; RETURN");
        }
        due.is("it is not plain", x.code(0, 16, 1), NONE);
        due.is("it has its argument all the same", x.close(), NONE);
        due.is("receiver", x.typeAt(1, 0, 0), 0);
        due.is("argument", x.typeAt(4, 0, 1), ClosedWorld.NUMBER);
    }

    private void methodRefused() {
        due.says("NONE, refused, when there are ten, there is no such class, selector is not NONE or 0 .. 3, it is "
                + "plain and arguments is not 0 .. 2, or the class has a method of its own with that selector.");
        ClosedWorld x = new Maker(due).types(NONE, 0).open();
        for (int type : new int[] {-1, 2, 5, 6, LOWEST, HIGHEST}) {
            due.is("class " + type, x.method(type, NONE, 0), NONE);
            due.is("class " + type + " with a selector", x.method(type, 0, 0), NONE);
        }
        for (int selector : new int[] {-2, 4, 5, LOWEST, HIGHEST}) {
            due.is("selector " + selector, x.method(0, selector, 1), NONE);
        }
        for (int arguments : new int[] {-1, 3, 4, LOWEST, HIGHEST}) {
            due.is("arguments " + arguments, x.method(0, NONE, arguments), NONE);
        }
        for (int selector = 0; selector < 4; selector++) {
            due.is("of class 0", x.method(0, selector, 0), 2 * selector);
            due.is("once more", x.method(0, selector, 0), NONE);
            due.is("of the class below", x.method(1, selector, 0), 2 * selector + 1);
            due.is("once more below", x.method(1, selector, 1), NONE);
        }
        due.is("plain", x.method(0, NONE, 0), 8);
        due.is("plain once more", x.method(0, NONE, 0), 9);
        due.is("an eleventh", x.method(0, NONE, 0), NONE);
    }

    private void initialiser() {
        due.says("`boolean initialiser(int type, int method)`: The initialiser of a class becomes a plain method "
                + "without arguments (of any class), in place of one that it had: true.");
        ClosedWorld x = new Maker(due).types(NONE, NONE).plain(0, 1, END).plain(0, 0, "PUSH 11; PRINT; PUSH 0; RETURN")
                .plain(1, 0, "PUSH 12; PRINT; PUSH 0; RETURN").open();
        due.is("of its class", x.initialiser(0, 1), true);
        due.is("close", x.close(), NONE);
        due.runs(x, 0, 0, 1);
        due.is("printed", x.printed(0), 11);
        due.is("of another class", x.initialiser(0, 2), true);
        due.is("close", x.close(), NONE);
        due.runs(x, 0, 0, 1);
        due.is("prints", x.prints(), 1);
        due.is("printed by the other", x.printed(0), 12);
        due.is("the class of the method is not begun by that", x.begun(1), NONE);
        due.is("for both classes", x.initialiser(1, 2), true);
        due.is("to what it is", x.initialiser(1, 2), true);
    }

    private void initialiserRefused() {
        due.says("False, refused, when there is no such class, or no such method.");
        ClosedWorld x = new Maker(due).types(NONE, NONE).plain(0, 1, END).plain(0, 0, END).plain(0, 2, END)
                .sent(0, 0, END).open();
        for (int type : new int[] {-1, 2, 5, 6, LOWEST, HIGHEST}) {
            due.is("class " + type, x.initialiser(type, 1), false);
        }
        for (int method : new int[] {-1, 4, 9, 10, LOWEST, HIGHEST}) {
            due.is("method " + method, x.initialiser(0, method), false);
        }
        due.is("one argument", x.initialiser(0, 0), false);
        due.is("two arguments", x.initialiser(0, 2), false);
        due.is("a selector", x.initialiser(0, 3), false);
        due.is("close", x.close(), NONE);
        due.is("none of them is one", x.live(1), false);
        due.is("the right one", x.initialiser(1, 1), true);
    }

    private void code() {
        due.says("`int code(int method, int op, int a)`: A further instruction of a method; answers its number.");
        ClosedWorld x = new Maker(due).types(NONE).plain(0, 1, "").plain(0, 0, "").open();
        due.is("the first", x.code(0, 0, 30), 0);
        due.is("the first of another", x.code(1, 0, 12), 0);
        due.is("the second", x.code(0, 16, 1), 1);
        due.is("the third", x.code(0, 5, 0), 2);
        due.is("the second of the other", x.code(1, 22, 0), 1);
        due.is("the fourth", x.code(0, 22, 0), 3);
        due.is("close", x.close(), NONE);
        due.runs(x, 0, 0, 42);
    }

    private void codeRefused() {
        due.says("NONE, refused, when there is no such method, it has 20, op is not 0 .. 22, or the operand is not "
                + "what the op needs:");
        ClosedWorld x = new Maker(due).types(NONE).plain(0, 1, "").open();
        for (int method : new int[] {-1, 1, 9, 10, LOWEST, HIGHEST}) {
            due.is("method " + method, x.code(method, 0, 0), NONE);
        }
        for (int op : new int[] {-1, 23, 24, LOWEST, HIGHEST}) {
            due.is("op " + op, x.code(0, op, 0), NONE);
        }
        int[] free = {0, 4, 5, 6, 7, 8, 20, 21, 22};
        for (int k = 0; k < 18; k++) {
            due.is("op " + free[k / 2] + " with anything", x.code(0, free[k / 2], k % 2 == 0 ? LOWEST : HIGHEST), k);
        }
        due.is("op 0", x.code(0, 0, 0), 18);
        due.is("op 22", x.code(0, 22, -1), 19);
        for (int op = 0; op < 23; op++) {
            due.is("a twenty-first", x.code(0, op, 0), NONE);
        }
    }

    /** Gives method 0 an op with each of these operands; taken has a y where it is taken. */
    private void takes(ClosedWorld x, int op, int[] operands, String taken) {
        for (int k = 0; k < operands.length; k++) {
            due.is("op " + op + " with " + operands[k], x.code(0, op, operands[k]) != NONE, taken.charAt(k) == 'y');
        }
    }

    private Maker two() {
        return new Maker(due).types(NONE, NONE).plain(0, 1, "").plain(0, 0, "").sent(0, 0, "").plain(1, 2, "");
    }

    private void operandsOfClasses() {
        due.says("a class there is for 1, 11, 14, 15, 18, 19;");
        for (int op : new int[] {1, 11, 14, 15, 18, 19}) {
            ClosedWorld x = two().open();
            takes(x, op, new int[] {0, 1, 2, 5, 6, -1, LOWEST, HIGHEST}, "yynnnnnn");
            due.is("a third class", x.type(NONE, 0), 2);
            takes(x, op, new int[] {2, 3}, "yn");
        }
    }

    private void operandsOfLocals() {
        due.says("a local 0 .. 3 for 2, 3;");
        for (int op = 2; op <= 3; op++) {
            takes(two().open(), op, new int[] {0, 1, 2, 3, 4, -1, LOWEST, HIGHEST}, "yyyynnnn");
        }
    }

    private void operandsOfJumps() {
        due.says("0 .. 19 for 9, 10 (which need not be there yet);");
        for (int op = 9; op <= 10; op++) {
            takes(two().open(), op, new int[] {19, 18, 1, 0, 20, 21, -1, LOWEST, HIGHEST}, "yyyynnnnn");
        }
    }

    private void operandsOfFields() {
        due.says("0 .. 5 for 12, 13;");
        for (int op = 12; op <= 13; op++) {
            takes(two().open(), op, new int[] {0, 1, 5, 6, -1, LOWEST, HIGHEST}, "yyynnnn");
        }
    }

    private void operandsOfCalls() {
        due.says("a plain method there is for 16;");
        ClosedWorld x = two().open();
        takes(x, 16, new int[] {0, 1, 2, 3, 4, 9, 10, -1, LOWEST, HIGHEST}, "yynynnnnnn");
        due.is("a fifth method", x.method(0, NONE, 0), 4);
        takes(x, 16, new int[] {4, 5}, "yn");
    }

    private void operandsOfSends() {
        due.says("0 .. 3 for 17.");
        takes(two().open(), 17, new int[] {0, 1, 2, 3, 4, -1, LOWEST, HIGHEST}, "yyyynnnn");
    }

    private void guard() {
        due.says("`boolean guard(int method, int from, int to, int handler)`: A further guard of a method: true.");
        ClosedWorld x = new Maker(due).types(NONE).plain(0, 1, "LOAD 0; THROW; PUSH 5; ADD; RETURN").open();
        due.is("close", x.close(), NONE);
        due.runs(x, 1, 1, 1);
        due.is("over nothing that is reached", x.guard(0, 19, 20, 19), true);
        due.is("close", x.close(), NONE);
        due.runs(x, 1, 1, 1);
        due.is("over THROW", x.guard(0, 1, 2, 2), true);
        due.is("close", x.close(), NONE);
        due.runs(x, 1, 0, 6);
        ClosedWorld empty = new Maker(due).types(NONE).plain(0, 1, "").open();
        due.is("of a method without code", empty.guard(0, 0, 20, 0), true);
    }

    private void guardRefused() {
        due.says("False, refused, when there is no such method, it has three, or not 0 <= from < to <= 20 and 0 <= "
                + "handler <= 19.");
        ClosedWorld x = new Maker(due).types(NONE).plain(0, 1, END).plain(0, 0, END).open();
        for (int method : new int[] {-1, 2, 9, 10, LOWEST, HIGHEST}) {
            due.is("method " + method, x.guard(method, 0, 1, 0), false);
        }
        int[][] wrong = {{-1, 1, 0}, {LOWEST, 1, 0}, {0, 0, 0}, {1, 1, 0}, {2, 1, 0}, {20, 20, 0}, {19, 19, 0},
            {20, 21, 0}, {0, 21, 0}, {0, HIGHEST, 0}, {HIGHEST, LOWEST, 0}, {0, LOWEST, 0}, {0, 1, -1}, {0, 1, 20},
            {0, 1, LOWEST}, {0, 1, HIGHEST}, {-1, 0, 0}};
        for (int[] k : wrong) {
            due.is("from " + k[0] + " to " + k[1] + " handler " + k[2], x.guard(0, k[0], k[1], k[2]), false);
        }
        due.is("the narrowest", x.guard(0, 0, 1, 0), true);
        due.is("the last", x.guard(0, 19, 20, 0), true);
        due.is("the widest", x.guard(0, 0, 20, 19), true);
        due.is("a fourth", x.guard(0, 0, 1, 0), false);
        due.is("of another method", x.guard(1, 0, 1, 0), true);
    }
}
