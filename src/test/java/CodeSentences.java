/** The sentences of 'Terms' on code: its bounds, and what each op does. */
final class CodeSentences {
    private static final int NONE = ClosedWorld.NONE;
    private static final int NUMBER = ClosedWorld.NUMBER;
    private static final int LOWEST = Integer.MIN_VALUE;
    private static final int HIGHEST = Integer.MAX_VALUE;

    private final Due due;

    CodeSentences(Due due) {
        this.due = due;
    }

    void ask() {
        atMostTwentyInstructions();
        localsAndStack();
        atTheBeginning();
        theNextNumber();
        theLastWasOnTop();
        push();
        nulls();
        load();
        store();
        pop();
        reckon();
        divide();
        jump();
        lowerOrEqual();
        makeObjects();
        get();
        put();
        readStatic();
        setStatic();
        call();
        send();
        cast();
        isA();
        print();
        toss();
        end();
    }

    /** A class with two fields, and method 0 of this text. */
    private ClosedWorld world(String text) {
        return new Maker(due).type(NONE, 2).plain(0, 1, text).closed();
    }

    private void answers(String text, int argument, int result) {
        due.runs(world(text), argument, 0, result);
    }

    private void tosses(String text, int argument, int result) {
        due.runs(world(text), argument, 1, result);
    }

    private void isNotSound(String text) {
        due.is("close of " + text, new Maker(due).type(NONE, 2).plain(0, 1, text).open().close(), 0);
    }

    private void atMostTwentyInstructions() {
        due.says("CODE: a method has at most 20 instructions, numbered from 0.");
        ClosedWorld x = new Maker(due).types(NONE).plain(0, 1, "").open();
        for (int k = 0; k < 9; k++) {
            due.is("code", x.code(0, 0, k), 2 * k);
            due.is("code", x.code(0, 4, 0), 2 * k + 1);
        }
        due.is("code", x.code(0, 0, 99), 18);
        due.is("not sound without its end", x.close(), 0);
        due.is("code", x.code(0, 22, 0), 19);
        due.is("a twenty-first", x.code(0, 22, 0), NONE);
        due.is("close", x.close(), NONE);
        due.runs(x, 0, 0, 99);
        due.is("all twenty ran", x.steps(), 20);
    }

    private void localsAndStack() {
        due.says("It has four LOCALS 0 .. 3 and a STACK of at most six values.");
        answers("PUSH 2; STORE 1; PUSH 3; STORE 2; PUSH 4; STORE 3; LOAD 0; LOAD 1; LOAD 2; LOAD 3; LOAD 0; LOAD 3; "
                + "ADD; SUB; SUB; SUB; SUB; RETURN", 1, 1 - (2 - (3 - (4 - (1 + 4)))));
        isNotSound("LOAD 0; LOAD 0; LOAD 0; LOAD 0; LOAD 0; LOAD 0; LOAD 0; RETURN");
        ClosedWorld x = new Maker(due).types(NONE).plain(0, 1, "").open();
        for (int op = 2; op <= 3; op++) {
            due.is("a fifth local for " + op, x.code(0, op, 4), NONE);
            due.is("a local below 0 for " + op, x.code(0, op, -1), NONE);
        }
    }

    private void atTheBeginning() {
        due.says("At the beginning the stack is empty; the locals hold the arguments, from 0 on, for a method with a "
                + "selector the receiver in 0 and the argument in 1.");
        isNotSound("RETURN");
        isNotSound("POP; PUSH 1; RETURN");
        ClosedWorld x = new Maker(due).type(NONE, 1)
                .plain(0, 1, "NEW 0; STORE 1; LOAD 1; PUSH 30; PUT 0; LOAD 0; LOAD 0; LOAD 1; PUSH 5; SEND 3; CALL 1; "
                + "SUB; RETURN").plain(0, 2, "LOAD 0; PUSH 100; MUL; LOAD 1; ADD; RETURN")
                .sent(0, 3, "LOAD 0; GET 0; LOAD 1; ADD; RETURN").closed();
        due.runs(x, 7, 0, 7 - 735);
        for (int method = 0; method < 3; method++) {
            due.is("no value in " + method, x.typeAt(method, 0, 4), NONE);
        }
    }

    private void theNextNumber() {
        due.says("An instruction has an op and an operand a; behind it comes the one with the next number, unless it "
                + "says otherwise.");
        answers("PUSH 1; PRINT; PUSH 2; PUSH 3; MUL; RETURN; PUSH 9; RETURN", 0, 6);
        answers("JUMP 3; PUSH 2; RETURN; JUMP 1", 0, 2);
        isNotSound("PUSH 1; PRINT");
    }

    private void theLastWasOnTop() {
        due.says("In brackets: what it takes from the stack (the last one was on top), and what it puts there; "
                + "n a number, r an object or null of some class, v any value.");
        answers("PUSH 100; LOAD 0; SUB; RETURN", 1, 99);
        answers("PUSH 100; LOAD 0; DIV; RETURN", 7, 14);
        isNotSound("PUSH 1; NEW 0; PUT 0; PUSH 1; RETURN");
        isNotSound("NEW 0; PUSH 1; GET 0; RETURN");
        answers("PUSH 5; NEW 0; NULL 0; POP; POP; RETURN", 0, 5);
        answers("NEW 0; STORE 0; NULL 0; STORE 0; PUSH 6; STORE 0; LOAD 0; RETURN", 0, 6);
    }

    private void push() {
        due.says("0 PUSH [> n] the number a.");
        for (int number : new int[] {0, 1, -1, LOWEST, HIGHEST}) {
            answers("PUSH " + number + "; RETURN", 3, number);
        }
    }

    private void nulls() {
        due.says("1 NULL [> r] null, of class a.");
        ClosedWorld x = new Maker(due).types(NONE, 0, NONE, NONE, NONE, NONE)
                .plain(0, 1, "NULL 5; NULL 0; NULL 1; ISA 0; PRINT; ISA 0; PRINT; ISA 5; RETURN").closed();
        due.is("of class 5", x.typeAt(0, 3, 4), 5);
        due.is("of class 0", x.typeAt(0, 3, 5), 0);
        due.is("of class 1", x.typeAt(0, 3, 6), 1);
        due.runs(x, 0, 0, 0);
        due.is("no object", x.objects(), 0);
        due.is("triggers nothing", x.begun(5), NONE);
    }

    private void load() {
        due.says("2 LOAD [> v] local a.");
        answers("LOAD 0; LOAD 0; ADD; RETURN", 21, 42);
        answers("PUSH 8; STORE 3; LOAD 3; LOAD 0; SUB; RETURN", 1, 7);
        answers("NEW 0; STORE 3; LOAD 3; LOAD 0; PUT 1; LOAD 3; GET 1; RETURN", 17, 17);
    }

    private void store() {
        due.says("3 STORE [v >] into local a.");
        answers("PUSH 1; PUSH 2; STORE 0; LOAD 0; SUB; RETURN", 50, -1);
        answers("PUSH 1; STORE 1; PUSH 2; STORE 2; PUSH 3; STORE 3; LOAD 0; LOAD 1; LOAD 2; LOAD 3; ADD; ADD; ADD; "
                + "RETURN", 10, 16);
        answers("NULL 0; STORE 0; LOAD 0; ISA 0; RETURN", 9, 0);
    }

    private void pop() {
        due.says("4 POP [v >].");
        answers("PUSH 1; PUSH 2; POP; RETURN", 0, 1);
        answers("PUSH 1; NEW 0; POP; RETURN", 0, 1);
        answers("LOAD 0; LE 4; PUSH 1; JUMP 5; NULL 0; POP; PUSH 8; RETURN", 0, 8);
        isNotSound("POP; PUSH 1; RETURN");
    }

    private void reckon() {
        due.says("5 ADD, 6 SUB, 7 MUL [n m > n] n + m, n - m, n * m; all wrap.");
        answers("LOAD 0; PUSH 5; ADD; RETURN", 3, 8);
        answers("LOAD 0; PUSH 1; ADD; RETURN", HIGHEST, LOWEST);
        answers("LOAD 0; PUSH -1; ADD; RETURN", LOWEST, HIGHEST);
        answers("LOAD 0; PUSH 5; SUB; RETURN", 3, -2);
        answers("LOAD 0; PUSH 1; SUB; RETURN", LOWEST, HIGHEST);
        answers("PUSH 0; LOAD 0; SUB; RETURN", LOWEST, LOWEST);
        answers("LOAD 0; PUSH 5; MUL; RETURN", 3, 15);
        answers("LOAD 0; LOAD 0; MUL; RETURN", 65536, 0);
        answers("LOAD 0; LOAD 0; MUL; RETURN", HIGHEST, 1);
        answers("LOAD 0; PUSH -1; MUL; RETURN", LOWEST, LOWEST);
    }

    private void divide() {
        due.says("8 DIV [n m > n] n / m, as ints are divided; throws DIVIDE when m is 0.");
        answers("LOAD 0; PUSH 2; DIV; RETURN", 7, 3);
        answers("LOAD 0; PUSH 2; DIV; RETURN", -7, -3);
        answers("LOAD 0; PUSH -2; DIV; RETURN", 7, -3);
        answers("LOAD 0; PUSH -1; DIV; RETURN", LOWEST, LOWEST);
        answers("PUSH 0; LOAD 0; DIV; RETURN", -1, 0);
        answers("PUSH 9; LOAD 0; DIV; RETURN", 1, 9);
        tosses("PUSH 9; LOAD 0; DIV; RETURN", 0, -2);
        tosses("PUSH 0; LOAD 0; DIV; RETURN", 0, -2);
    }

    private void jump() {
        due.says("9 JUMP goes on at a.");
        answers("JUMP 2; RETURN; PUSH 3; JUMP 1", 0, 3);
        ClosedWorld far = new Maker(due).types(NONE).plain(0, 1, "JUMP 19").open();
        due.write(far, 0, "RETURN");
        for (int k = 2; k < 19; k++) {
            due.write(far, 0, "POP");
        }
        due.is("the nineteenth is not there yet", far.close(), 0);
        due.write(far, 0, "JUMP 19");
        due.is("close", far.close(), NONE);
        due.runs(far, 0, 2, 0);
        due.is("goes on at itself", far.steps(), 2000);
        answers("LOAD 0; LE 5; LOAD 0; PUSH 1; JUMP 7; PUSH 77; RETURN; SUB; STORE 0; JUMP 0", 5, 77);
    }

    private void lowerOrEqual() {
        due.says("10 LE [n >] goes on at a when n is 0 or below.");
        String text = "PUSH 5; LOAD 0; LE 4; RETURN; PUSH 1; ADD; RETURN";
        answers(text, 0, 6);
        answers(text, -1, 6);
        answers(text, LOWEST, 6);
        answers(text, 1, 5);
        answers(text, HIGHEST, 5);
    }

    private void makeObjects() {
        due.says("11 NEW [> r] triggers class a; then throws MEMORY when there are 16 objects, else makes one of class "
                + "a with all fields 0.");
        ClosedWorld x = new Maker(due).type(NONE, 0).type(NONE, 6)
                .plain(0, 1, "LOAD 0; LE 9; LOAD 0; PUSH 1; SUB; STORE 0; CALL 1; POP; JUMP 0; NEW 1; STORE 1; LOAD 1; "
                + "GET 0; LOAD 1; GET 5; ADD; RETURN")
                .plain(0, 0, "NEW 1; STORE 0; LOAD 0; PUSH 3; PUT 0; LOAD 0; PUSH 4; PUT 5; NULL 0; ISA 0; RETURN")
                .plain(0, 0, "PUSH 66; PRINT; PUSH 0; RETURN").initialiser(1, 2).closed();
        due.runs(x, 15, 0, 0);
        due.is("sixteen", x.objects(), 16);
        due.is("triggered at the first", x.begun(1), 1);
        due.is("its initialiser ran once", x.prints(), 1);
        due.runs(x, 16, 1, -4);
        due.is("no seventeenth", x.objects(), 16);
        due.runs(x, 5, 0, 0);
        due.runs(x, 3, 0, 0);
        due.is("four in a new run", x.objects(), 4);

        ClosedWorld later = new Maker(due).types(NONE, NONE)
                .plain(0, 1, "NEW 0; POP; LOAD 0; PUSH 1; SUB; STORE 0; LOAD 0; LE 9; JUMP 0; NEW 1; ISA 1; RETURN")
                .plain(0, 0, "PUSH 66; PRINT; PUSH 0; RETURN").initialiser(1, 1).closed();
        due.runs(later, 15, 0, 1);
        due.runs(later, 16, 1, -4);
        due.is("triggered, though there is no room", later.begun(1), 1);
        due.is("and its initialiser ran", later.prints(), 1);

        ClosedWorld last = new Maker(due).types(NONE, NONE)
                .plain(0, 1, "NEW 0; POP; LOAD 0; PUSH 1; SUB; STORE 0; LOAD 0; LE 9; JUMP 0; NEW 1; ISA 1; RETURN")
                .plain(0, 0, "NEW 0; ISA 0; RETURN").initialiser(1, 1).closed();
        due.runs(last, 14, 0, 1);
        due.runs(last, 15, 1, -4);
        due.is("the initialiser made the sixteenth", last.objects(), 16);
    }

    private void get() {
        due.says("12 GET [r > n] field a.");
        answers("NEW 0; STORE 1; LOAD 1; LOAD 0; PUT 0; LOAD 1; PUSH 9; PUT 1; LOAD 1; GET 0; RETURN", 4, 4);
        answers("NEW 0; STORE 1; LOAD 1; LOAD 0; PUT 0; LOAD 1; PUSH 9; PUT 1; LOAD 1; GET 1; RETURN", 4, 9);
        answers("NEW 0; GET 1; RETURN", 4, 0);
    }

    private void put() {
        due.says("13 PUT [r n >] field a becomes n.");
        answers("NEW 0; STORE 1; LOAD 1; LOAD 0; PUT 1; LOAD 1; GET 0; RETURN", 4, 0);
        answers("NEW 0; STORE 1; LOAD 1; LOAD 0; PUT 1; LOAD 1; PUSH 8; PUT 1; LOAD 1; GET 1; RETURN", 4, 8);
        answers("NEW 0; STORE 1; NEW 0; STORE 2; LOAD 1; LOAD 0; PUT 1; LOAD 2; GET 1; RETURN", 4, 0);
        answers("PUSH 7; NEW 0; LOAD 0; PUT 1; RETURN", LOWEST, 7);
        answers("NEW 0; STORE 1; LOAD 1; LOAD 0; PUT 1; LOAD 1; GET 1; RETURN", LOWEST, LOWEST);
    }

    /** The number of class 1 becomes 5 when it begins. */
    private ClosedWorld withNumber(String text) {
        return new Maker(due).types(NONE, NONE).plain(0, 1, text).plain(0, 0, "PUSH 5; SET 1; PUSH 0; RETURN")
                .initialiser(1, 1).closed();
    }

    private void readStatic() {
        due.says("14 STATIC [> n] triggers class a; its static number.");
        ClosedWorld x = withNumber("STATIC 0; PRINT; STATIC 1; RETURN");
        due.runs(x, 0, 0, 5);
        due.is("0 at first", x.printed(0), 0);
        due.is("triggered", x.begun(1), 1);
    }

    private void setStatic() {
        due.says("15 SET [n >] triggers class a; its static number becomes n.");
        ClosedWorld x = withNumber("PUSH 3; LOAD 0; SET 1; STATIC 1; SUB; RETURN");
        due.runs(x, 8, 0, -5);
        due.is("behind what its initialiser set", x.kept(1), 8);
        due.is("of no other class", x.kept(0), 0);
        due.runs(x, LOWEST, 0, 3 - LOWEST);
        due.is("triggered", x.begun(1), 1);
    }

    private void call() {
        due.says("16 CALL [as many n as the plain method a has arguments > n] triggers the class of method a, then "
                + "runs it (the argument that is on top is its last).");
        ClosedWorld x = new Maker(due).types(NONE, NONE)
                .plain(0, 1, "PUSH 1000; LOAD 0; PUSH 7; CALL 1; ADD; CALL 2; SUB; RETURN")
                .plain(1, 2, "LOAD 0; LOAD 1; SUB; STATIC 1; ADD; RETURN").plain(1, 0, "PUSH 3; RETURN")
                .plain(0, 0, "PUSH 100; SET 1; PUSH 0; RETURN").initialiser(1, 3).closed();
        due.runs(x, 20, 0, 1000 + 13 + 100 - 3);
        due.is("triggered", x.begun(1), 1);
        due.is("no argument is taken by 2, and one is put", x.typeAt(0, 6, 5), NUMBER);
        due.is("two arguments are taken by 1", x.typeAt(0, 4, 6), NONE);
        String[] few = {"CALL 1; RETURN", "PUSH 1; CALL 1; RETURN", "CALL 0; RETURN"};
        for (String text : few) {
            due.is(text, new Maker(due).types(NONE).plain(0, 1, text).plain(0, 2, "PUSH 1; RETURN").open().close(), 0);
        }
    }

    private void send() {
        due.says("17 SEND [r n > n] runs the method with which the class of the object answers selector a.");
        String text = "LOAD 0; LE 4; NEW 2; JUMP 5; NEW 0; CAST 0; PUSH 9; SEND 3; RETURN";
        ClosedWorld x = new Maker(due).types(NONE, 0, 1).plain(0, 1, text).sent(0, 3, "LOAD 1; RETURN")
                .sent(1, 3, "LOAD 1; PUSH 10; MUL; RETURN").sent(0, 2, "PUSH 0; RETURN").sent(2, 2, "PUSH 0; RETURN")
                .closed();
        due.runs(x, 0, 0, 9);
        due.runs(x, 1, 0, 90);
    }

    private void cast() {
        due.says("18 CAST [r > r] the same value, of class a; throws MISCAST when it is an object whose class isn't of "
                + "class a.");
        int[][] wants = {{1, 1, 0}, {1, 0, 0}, {0, 1, 1}, {2, 1, 1}, {0, 3, 1}, {3, 0, 1}};
        for (int[] want : wants) {
            String text = "NULL " + want[0] + "; CAST " + want[1] + "; POP; NEW " + want[0] + "; CAST " + want[1]
                    + "; STORE 1; LOAD 1; ISA " + want[0] + "; RETURN";
            ClosedWorld x = new Maker(due).types(NONE, 0, 0, NONE).plain(0, 1, text).closed();
            due.runs(x, 0, want[2], want[2] == 1 ? -3 : 1);
            due.is("the type of null", x.typeAt(0, 2, 4), want[1]);
            due.is("the type", x.typeAt(0, 6, 1), want[1]);
        }
        answers("NEW 0; STORE 1; LOAD 1; CAST 0; LOAD 0; PUT 1; LOAD 1; GET 1; RETURN", 6, 6);
        ClosedWorld back = new Maker(due).types(NONE, 0).plain(0, 1, "NEW 1; CAST 0; CAST 1; ISA 1; RETURN").closed();
        due.runs(back, 0, 0, 1);
        ClosedWorld none = new Maker(due).types(NONE, NONE, NONE).plain(2, 1, "NULL 0; CAST 1; ISA 1; RETURN").closed();
        due.runs(none, 0, 0, 0);
        due.is("triggers nothing", none.begun(1), NONE);
    }

    private void isA() {
        due.says("19 ISA [r > n] 1 when it is an object whose class is of class a, else 0.");
        int[][] wants = {{0, 0, 1}, {1, 0, 1}, {0, 1, 0}, {2, 1, 0}, {3, 3, 1}, {3, 0, 0}, {0, 3, 0}};
        for (int[] want : wants) {
            String text = "NULL " + want[0] + "; ISA " + want[1] + "; PRINT; NEW " + want[0] + "; ISA " + want[1]
                    + "; RETURN";
            ClosedWorld x = new Maker(due).types(NONE, 0, 0, NONE).plain(0, 1, text).closed();
            due.runs(x, 0, 0, want[2]);
            due.is("of null", x.printed(0), 0);
            due.is("prints", x.prints(), 1);
        }
    }

    private void print() {
        due.says("20 PRINT [n >] prints it.");
        ClosedWorld x = world("PUSH 3; LOAD 0; PRINT; PUSH 5; PRINT; RETURN");
        due.runs(x, LOWEST, 0, 3);
        due.is("prints", x.prints(), 2);
        due.is("the first", x.printed(0), LOWEST);
        due.is("the second", x.printed(1), 5);
    }

    private void toss() {
        due.says("21 THROW [n >] throws it.");
        for (int number : new int[] {0, 1, -1, -5, LOWEST, HIGHEST}) {
            tosses("LOAD 0; THROW", number, number);
        }
        ClosedWorld x = new Maker(due).types(NONE).plain(0, 1, "LOAD 0; THROW; PUSH 1; ADD; RETURN").guard(0, 1, 2, 2)
                .open();
        due.is("close with a handler", x.close(), NONE);
        due.runs(x, 0, 0, 1);
    }

    private void end() {
        due.says("22 RETURN [n >] ends the method, which answers it.");
        ClosedWorld x = new Maker(due).types(NONE).plain(0, 1, "PUSH 1; LOAD 0; RETURN; PUSH 1; PRINT; PUSH 2; RETURN")
                .closed();
        due.runs(x, 8, 0, 8);
        due.is("nothing behind it", x.prints(), 0);
        due.is("steps", x.steps(), 3);
        ClosedWorld called = new Maker(due).types(NONE).plain(0, 1, "LOAD 0; CALL 1; PUSH 1; ADD; RETURN")
                .plain(0, 1, "LOAD 0; PUSH 2; MUL; RETURN").closed();
        due.runs(called, 8, 0, 17);
    }
}
