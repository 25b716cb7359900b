/** The sentences of 'Terms' on the check. */
final class CheckSentences {
    private static final int NONE = ClosedWorld.NONE;
    private static final int NUMBER = ClosedWorld.NUMBER;
    private static final int UNSET = ClosedWorld.UNSET;
    private static final String END = "; PUSH 1; RETURN";
    private static final String FIVE = "PUSH 1; PUSH 1; PUSH 1; PUSH 1; PUSH 1; ";
    /** Puts a number or an object on the stack, so that its type is UNSET. */
    private static final String MEET = "LOAD 0; LE 4; PUSH 1; JUMP 5; NULL 0; ";

    private final Due due;

    CheckSentences(Due due) {
        this.due = due;
    }

    void ask() {
        threeKindsOfType();
        atInstructionNought();
        mustBeThere();
        mustHaveWhatItTakes();
        loadsNoUnset();
        fieldOfTheClass();
        classAnswers();
        notMoreThanSix();
        whatItPuts();
        whereItGoesOn();
        handlers();
        stacksOfTheSameSize();
        joins();
        leastTypes();
        sound();
        goOnNowhere();
    }

    /**
     * Classes 0, 1 of 0, 2 of 0, 3 of 1 and 4 alone, with 1, 2, 1, 3 and 0 fields; only class 1 has a method of its own
     * with a selector, which is 2.
     */
    private Maker family(String text) {
        return new Maker(due).type(NONE, 1).type(0, 1).type(0, 0).type(1, 1).type(NONE, 0).plain(0, 1, text)
                .sent(1, 2, "LOAD 1; RETURN").plain(0, 2, "PUSH 1; RETURN");
    }

    private void isSound(String text) {
        due.is("close of " + text, family(text).open().close(), NONE);
    }

    private void isNotSound(String text) {
        due.is("close of " + text, family(text).open().close(), 0);
    }

    private void threeKindsOfType() {
        due.says("THE CHECK. Each local and each value of the stack has a TYPE: NUMBER, a class, or UNSET.");
        ClosedWorld x = family(MEET + "NULL 3; STORE 2; PUSH 1; RETURN").closed();
        int[] wants = {NUMBER, UNSET, 3, UNSET, UNSET, NUMBER, NONE};
        for (int place = 0; place < wants.length; place++) {
            due.is("place " + place, x.typeAt(0, 8, place), wants[place]);
        }
    }

    private void atInstructionNought() {
        due.says("At instruction 0 of a method the locals have the types of the arguments (the receiver's is the "
                + "method's class), the others are UNSET.");
        String text = "PUSH 0; RETURN";
        ClosedWorld x = new Maker(due).types(NONE, 0, 1, 2, 3, 4).plain(0, 1, text).plain(0, 0, text).plain(0, 2, text)
                .sent(5, 0, text).sent(0, 3, text).closed();
        int[][] wants = {{NUMBER, UNSET}, {UNSET, UNSET}, {NUMBER, NUMBER}, {5, NUMBER}, {0, NUMBER}};
        for (int method = 0; method < wants.length; method++) {
            due.is("local 0 of " + method, x.typeAt(method, 0, 0), wants[method][0]);
            due.is("local 1 of " + method, x.typeAt(method, 0, 1), wants[method][1]);
            due.is("local 2 of " + method, x.typeAt(method, 0, 2), UNSET);
            due.is("local 3 of " + method, x.typeAt(method, 0, 3), UNSET);
        }
        ClosedWorld back = family("PUSH 1; POP; NULL 0; STORE 0; JUMP 0").closed();
        due.is("reached with a class too", back.typeAt(0, 0, 0), UNSET);
        isNotSound("LOAD 0; POP; NULL 0; STORE 0; JUMP 0");
    }

    private void mustBeThere() {
        due.says("An instruction that is REACHED must be there;");
        due.is("instruction 0", new Maker(due).types(NONE).plain(0, 1, "").open().close(), 0);
        isNotSound("PUSH 1");
        isNotSound("JUMP 1");
        isSound("JUMP 0");
        isNotSound("LOAD 0; LE 4; PUSH 1; RETURN");
        isSound("LOAD 0; LE 2; PUSH 1; RETURN");
        isNotSound("JUMP 19; PUSH 1; RETURN");
        isSound("PUSH 1; RETURN; JUMP 19");
        isSound("PUSH 1; RETURN; PUSH 1");
        due.is("a handler that is not there", family("PUSH 1; RETURN").guard(0, 1, 2, 2).open().close(), 0);
        due.is("a handler of what is not reached", family("PUSH 1; RETURN; PUSH 1").guard(0, 2, 3, 19).open()
                .close(), NONE);
    }

    private void mustHaveWhatItTakes() {
        due.says("the stack must have what it takes: for n a NUMBER, for r a class, for v anything;");
        takesOneNumber();
        takesTwoNumbers();
        takesAnObject();
        takesAnObjectAndANumber();
        takesAnything();
    }

    private void takesOneNumber() {
        String[] ops = {"SET 0", "PRINT", "THROW", "RETURN", "CALL 0; POP"};
        for (String op : ops) {
            isSound("NULL 0; PUSH 1; " + op + END);
            isNotSound(op + END);
            isNotSound("NULL 0; " + op + END);
            isNotSound(MEET + op + END);
        }
        isSound("NULL 0; PUSH 1; LE 3" + END);
        isNotSound("LE 1" + END);
        isNotSound("NULL 0; LE 2" + END);
        isNotSound(MEET + "LE 6" + END);
    }

    private void takesTwoNumbers() {
        String[] ops = {"ADD", "SUB", "MUL", "DIV", "CALL 2"};
        for (String op : ops) {
            isSound("PUSH 1; PUSH 1; " + op + "; POP" + END);
            isNotSound(op + "; POP" + END);
            isNotSound("PUSH 1; " + op + "; POP" + END);
            isNotSound("NULL 0; PUSH 1; " + op + "; POP" + END);
            isNotSound("PUSH 1; NULL 0; " + op + "; POP" + END);
            isNotSound(MEET + "PUSH 1; " + op + "; POP" + END);
            isNotSound("PUSH 1; LOAD 0; LE 5; PUSH 1; JUMP 6; NULL 0; " + op + "; POP" + END);
        }
    }

    private void takesAnObject() {
        String[] ops = {"GET 0", "CAST 0", "ISA 0"};
        for (String op : ops) {
            isSound("NULL 0; " + op + "; POP" + END);
            isNotSound(op + "; POP" + END);
            isNotSound("PUSH 1; " + op + "; POP" + END);
            isNotSound(MEET + op + "; POP" + END);
        }
    }

    private void takesAnObjectAndANumber() {
        String[] ops = {"PUT 0", "SEND 2; POP"};
        for (String op : ops) {
            isSound("NULL 1; PUSH 1; " + op + END);
            isNotSound(op + END);
            isNotSound("PUSH 1; " + op + END);
            isNotSound("NULL 1; " + op + END);
            isNotSound("NULL 1; NULL 1; " + op + END);
            isNotSound("PUSH 1; PUSH 1; " + op + END);
            isNotSound("PUSH 1; NULL 1; " + op + END);
            isNotSound("LOAD 0; LE 4; PUSH 1; JUMP 5; NULL 1; PUSH 1; " + op + END);
            isNotSound("NULL 1; LOAD 0; LE 5; PUSH 1; JUMP 6; NULL 1; " + op + END);
        }
    }

    private void takesAnything() {
        String[] ops = {"STORE 3", "POP"};
        for (String op : ops) {
            isSound("PUSH 1; " + op + END);
            isSound("NULL 4; " + op + END);
            isSound(MEET + op + END);
            isNotSound(op + END);
        }
    }

    private void loadsNoUnset() {
        due.says("LOAD takes no local that is UNSET;");
        for (int local = 1; local < 4; local++) {
            isNotSound("LOAD " + local + "; POP; PUSH 1; RETURN");
            isSound("NULL 0; STORE " + local + "; LOAD " + local + "; POP; PUSH 1; RETURN");
            isSound("PUSH 0; STORE " + local + "; LOAD " + local + "; RETURN");
        }
        isNotSound(MEET + "STORE 0; LOAD 0; POP; PUSH 1; RETURN");
        isNotSound("LOAD 0; LE 4; PUSH 1; STORE 1; LOAD 1; RETURN");
        isSound(MEET + "STORE 0; PUSH 1; STORE 0; LOAD 0; RETURN");
    }

    private void fieldOfTheClass() {
        due.says("GET and PUT: field a is one of the class;");
        int[] counts = {1, 2, 1, 3, 0};
        for (int type = 0; type < 5; type++) {
            for (int field = 0; field < 6; field++) {
                int want = field < counts[type] ? NONE : 0;
                due.is("GET", family("NULL " + type + "; GET " + field + "; RETURN").open().close(), want);
                due.is("PUT", family("NULL " + type + "; PUSH 1; PUT " + field + "; PUSH 1; RETURN").open()
                        .close(), want);
            }
        }
        isNotSound("NEW 3; CAST 0; GET 1; RETURN");
        isSound("NEW 0; CAST 3; GET 2; RETURN");
    }

    private void classAnswers() {
        due.says("SEND: the class answers selector a;");
        int[] wants = {0, NONE, 0, NONE, 0};
        for (int type = 0; type < 5; type++) {
            due.is("to class " + type, family("NULL " + type + "; PUSH 1; SEND 2; RETURN").open().close(), wants[type]);
            due.is("another selector", family("NULL " + type + "; PUSH 1; SEND 3; RETURN").open().close(), 0);
        }
        isNotSound("NEW 1; CAST 0; PUSH 1; SEND 2; RETURN");
    }

    private void notMoreThanSix() {
        due.says("after it the stack must not have more than six values.");
        for (String op : new String[] {"PUSH 1", "NULL 0", "LOAD 0", "NEW 0", "STATIC 0"}) {
            isSound(FIVE + op + "; POP; RETURN");
            isNotSound(FIVE + "PUSH 1; " + op + "; POP; RETURN");
        }
        isSound(FIVE + "PUSH 1; CALL 0; RETURN");
        isSound(FIVE + "PUSH 1; CALL 2; RETURN");
        isSound("PUSH 1; PUSH 1; PUSH 1; PUSH 1; NULL 1; PUSH 1; SEND 2; RETURN");
        isSound(FIVE + "NULL 0; ISA 0; RETURN");
        isSound(FIVE + "NULL 0; CAST 3; GET 2; RETURN");
        for (int values = 5; values <= 6; values++) {
            ClosedWorld x = new Maker(due).types(NONE)
                    .plain(0, 1, FIVE + (values == 6 ? "PUSH 1; " : "") + "CALL 1; RETURN")
                    .plain(0, 0, "PUSH 1; RETURN").open();
            due.is("CALL of a method without arguments on " + values, x.close(), values == 6 ? 0 : NONE);
        }
    }

    private void whatItPuts() {
        due.says("What it puts there: NUMBER; for NULL, NEW and CAST class a; for LOAD the type of the local; "
                + "STORE gives the local the type of the value.");
        String[] numbers = {"PUSH 1", "PUSH 1; PUSH 1; ADD", "PUSH 1; PUSH 1; SUB", "PUSH 1; PUSH 1; MUL",
            "PUSH 1; PUSH 1; DIV", "NEW 0; GET 0", "STATIC 0", "PUSH 1; CALL 0", "NEW 1; PUSH 1; SEND 2",
            "NEW 3; ISA 1", "LOAD 0"};
        for (String text : numbers) {
            puts(text, NUMBER);
        }
        for (int type = 0; type < 5; type++) {
            puts("NULL " + type, type);
            puts("NEW " + type, type);
            puts("NULL 2; CAST " + type, type);
            puts("NULL " + type + "; STORE 2; LOAD 2", type);
        }
        ClosedWorld x = family("NULL 3; STORE 0; PUSH 1; STORE 3; LOAD 3; LE 8; PUSH 1; JUMP 9; NULL 0; STORE 3; "
                + "PUSH 1; RETURN").closed();
        due.is("a class over a number", x.typeAt(0, 2, 0), 3);
        due.is("a number over UNSET", x.typeAt(0, 4, 3), NUMBER);
        due.is("UNSET over a number", x.typeAt(0, 10, 3), UNSET);
        due.is("the other locals stay", x.typeAt(0, 10, 0), 3);
    }

    private void puts(String text, int want) {
        int at = text.split(";").length;
        ClosedWorld x = family(text + "; STORE 1; PUSH 1; RETURN").closed();
        due.is("on the stack behind " + text, x.typeAt(0, at, 4), want);
        due.is("one value behind " + text, x.typeAt(0, at, 5), NONE);
        due.is("stored behind " + text, x.typeAt(0, at + 1, 1), want);
        due.is("taken by STORE", x.typeAt(0, at + 1, 4), NONE);
    }

    private void whereItGoesOn() {
        due.says("Where it may go on is reached with that;");
        ClosedWorld x = family("PUSH 5; LOAD 0; LE 4; RETURN; STORE 1; JUMP 7; POP; PUSH 1; RETURN").closed();
        due.is("behind LE", x.typeAt(0, 3, 4), NUMBER);
        due.is("behind LE, one value", x.typeAt(0, 3, 5), NONE);
        due.is("where LE goes on", x.typeAt(0, 4, 4), NUMBER);
        due.is("where LE goes on, one value", x.typeAt(0, 4, 5), NONE);
        due.is("where JUMP goes on", x.typeAt(0, 7, 1), NUMBER);
        due.is("not behind JUMP", x.typeAt(0, 6, 0), NONE);
        due.is("behind that", x.typeAt(0, 8, 4), NUMBER);
        isSound("JUMP 2; POP; PUSH 1; RETURN");
        isNotSound("JUMP 2; PUSH 1; POP; PUSH 1; RETURN");
    }

    private void handlers() {
        due.says("and the handler of the first guard in whose range it is, is reached with the locals as they were "
                + "before the instruction, and one NUMBER on the stack.");
        String[] behind0 = {"PUSH 1", "LOAD 0", "STATIC 0", "NULL 0; POP; PUSH 1", "NEW 0; POP; PUSH 1",
            "JUMP 1; PUSH 1"};
        for (String text : behind0) {
            handlerIsReached(text, 0);
        }
        String[] behind1 = {"PUSH 1; POP; PUSH 1", "PUSH 1; PRINT; PUSH 1", "PUSH 1; LE 2; PUSH 1", "PUSH 1; RETURN",
            "PUSH 1; THROW", "PUSH 1; SET 0; PUSH 1", "PUSH 1; STORE 1; PUSH 1", "NEW 0; GET 0", "PUSH 1; CALL 0",
            "NEW 0; CAST 0; POP; PUSH 1", "NEW 0; ISA 0"};
        for (String text : behind1) {
            handlerIsReached(text, 1);
        }
        String[] behind2 = {"PUSH 1; PUSH 1; ADD", "PUSH 1; PUSH 1; SUB", "PUSH 1; PUSH 1; MUL", "PUSH 1; PUSH 1; DIV",
            "NEW 0; PUSH 1; PUT 0; PUSH 1", "NEW 1; PUSH 1; SEND 2"};
        for (String text : behind2) {
            handlerIsReached(text, 2);
        }
        handlersOfGuards();
    }

    /** A guard over instruction at of the text alone has its handler behind it. */
    private void handlerIsReached(String text, int at) {
        int handler = text.split(";").length + 1;
        ClosedWorld x = family(text + "; RETURN; RETURN").guard(0, at, at + 1, handler).closed();
        due.is("from " + text, x.typeAt(0, handler, 4), NUMBER);
        due.is("one value from " + text, x.typeAt(0, handler, 5), NONE);
        due.is("local 0 from " + text, x.typeAt(0, handler, 0), NUMBER);
        due.is("local 1 from " + text, x.typeAt(0, handler, 1), UNSET);
    }

    private void handlersOfGuards() {
        ClosedWorld sides = family("LOAD 0; LE 6; NULL 3; STORE 0; PUSH 1; RETURN; PUSH 1; RETURN; RETURN; RETURN")
                .guard(0, 4, 5, 8).guard(0, 6, 7, 9).closed();
        due.is("of the one path", sides.typeAt(0, 8, 0), 3);
        due.is("of the other", sides.typeAt(0, 9, 0), NUMBER);
        ClosedWorld before = family("NULL 3; STORE 0; PUSH 1; RETURN; RETURN").guard(0, 1, 2, 4).closed();
        due.is("before the STORE", before.typeAt(0, 4, 0), NUMBER);
        ClosedWorld behind = family("NULL 3; STORE 0; PUSH 1; RETURN; RETURN").guard(0, 2, 3, 4).closed();
        due.is("behind the STORE", behind.typeAt(0, 4, 0), 3);
        ClosedWorld both = family("NULL 3; STORE 0; PUSH 1; RETURN; RETURN").guard(0, 1, 3, 4).closed();
        due.is("both", both.typeAt(0, 4, 0), UNSET);
        ClosedWorld second = family("PUSH 1; RETURN; RETURN; RETURN; RETURN").guard(0, 5, 20, 2).guard(0, 0, 1, 3)
                .guard(0, 0, 2, 4).closed();
        due.is("a guard over what is not there", second.typeAt(0, 2, 4), NONE);
        due.is("the first in whose range it is", second.typeAt(0, 3, 4), NUMBER);
        due.is("the next, by instruction 1 alone", second.typeAt(0, 4, 4), NUMBER);
        ClosedWorld only = family("PUSH 1; RETURN; RETURN; RETURN").guard(0, 0, 1, 2).guard(0, 0, 1, 3).closed();
        due.is("a later guard over the same", only.typeAt(0, 3, 4), NONE);
        due.is("a handler with an empty stack elsewhere", family("PUSH 1; RETURN").guard(0, 1, 2, 0).open().close(), 0);
    }

    private void stacksOfTheSameSize() {
        due.says("Where an instruction is reached from several sides, the stacks must have the same size,");
        isNotSound("LOAD 0; LE 3; PUSH 1; PUSH 1; RETURN");
        isSound("LOAD 0; LE 4; PUSH 1; JUMP 5; PUSH 1; RETURN");
        isNotSound("LOAD 0; LE 5; PUSH 1; PUSH 1; JUMP 6; PUSH 1; RETURN");
        isNotSound("PUSH 1; JUMP 0");
        isSound("PUSH 1; POP; JUMP 0");
        isNotSound("PUSH 1; LOAD 0; LE 0; RETURN");
        due.is("a handler with two values", family("PUSH 1; PUSH 1; RETURN").guard(0, 0, 1, 2).open().close(), 0);
        due.is("a handler with one value", family("PUSH 1; RETURN").guard(0, 0, 1, 1).open().close(), NONE);
    }

    private void joins() {
        due.says("and each type is the JOIN of theirs: the same type if they are the same; "
                + "for two classes the nearest class that both are of, if there is one; else UNSET.");
        String[] puts = {"NULL 0", "NULL 1", "NULL 2", "NULL 3", "NULL 4", "PUSH 1"};
        int[][] wants = { {0, 0, 0, 0, UNSET, UNSET}, {0, 1, 0, 1, UNSET, UNSET}, {0, 0, 2, 0, UNSET, UNSET},
            {0, 1, 0, 3, UNSET, UNSET}, {UNSET, UNSET, UNSET, UNSET, 4, UNSET},
            {UNSET, UNSET, UNSET, UNSET, UNSET, NUMBER}};
        for (int one = 0; one < puts.length; one++) {
            for (int other = 0; other < puts.length; other++) {
                String text = "LOAD 0; LE 6; " + puts[one] + "; STORE 1; " + puts[one] + "; JUMP 9; " + puts[other]
                        + "; STORE 1; " + puts[other] + "; POP; PUSH 1; RETURN";
                ClosedWorld x = family(text).closed();
                due.is("stack of " + puts[one] + " and " + puts[other], x.typeAt(0, 9, 4), wants[one][other]);
                due.is("local of " + puts[one] + " and " + puts[other], x.typeAt(0, 9, 1), wants[one][other]);
            }
        }
        ClosedWorld unset = family("LOAD 0; LE 4; NULL 1; STORE 1; PUSH 1; RETURN").closed();
        due.is("UNSET and a class", unset.typeAt(0, 4, 1), UNSET);
        due.is("UNSET and UNSET", unset.typeAt(0, 4, 2), UNSET);
        due.is("NUMBER and NUMBER", unset.typeAt(0, 4, 0), NUMBER);
        ClosedWorld three = family("LOAD 0; LE 8; LOAD 0; LE 6; NULL 3; JUMP 9; NULL 1; JUMP 9; NULL 2; POP; PUSH 1; "
                + "RETURN").closed();
        due.is("of three sides", three.typeAt(0, 9, 4), 0);
        ClosedWorld far = new Maker(due).types(NONE, 0, 1, 2, 2, 4)
                .plain(0, 1, "LOAD 0; LE 4; NULL 3; JUMP 5; NULL 5; POP; PUSH 1; RETURN").closed();
        due.is("the nearest of three ancestors", far.typeAt(0, 5, 4), 2);
    }

    private void leastTypes() {
        due.says("(The types are the least ones, that is the most exact ones, for which all this holds.)");
        ClosedWorld kept = family("NEW 3; STORE 1; LOAD 0; LE 6; LOAD 1; STORE 1; PUSH 1; LE 2; PUSH 1; RETURN")
                .closed();
        due.is("a loop that keeps the type", kept.typeAt(0, 2, 1), 3);
        ClosedWorld raised = family("NEW 3; STORE 1; LOAD 0; LE 7; LOAD 1; CAST 1; STORE 1; PUSH 1; LE 2; PUSH 1; "
                + "RETURN").closed();
        due.is("a loop that raises it", raised.typeAt(0, 2, 1), 1);
        due.is("in front of the loop", raised.typeAt(0, 1, 4), 3);
        ClosedWorld swapped = family("NEW 3; STORE 1; NEW 2; STORE 2; LOAD 1; LOAD 2; STORE 1; STORE 2; LOAD 0; LE 4; "
                + "PUSH 1; RETURN").closed();
        due.is("a loop that swaps", swapped.typeAt(0, 4, 1), 0);
        due.is("both", swapped.typeAt(0, 4, 2), 0);
        ClosedWorld passed = family("NEW 3; STORE 3; NEW 3; STORE 2; NEW 3; STORE 1; LOAD 2; STORE 1; LOAD 3; STORE 2; "
                + "NEW 0; STORE 3; LOAD 0; LE 6; PUSH 1; RETURN").closed();
        due.is("passed on", passed.typeAt(0, 6, 3), 0);
        due.is("passed on in the second round", passed.typeAt(0, 6, 2), 0);
        due.is("passed on in the third", passed.typeAt(0, 6, 1), 0);
        isNotSound("NEW 3; STORE 1; LOAD 1; GET 2; LE 8; NEW 1; STORE 1; JUMP 2; PUSH 1; RETURN");
        isSound("NEW 3; STORE 1; LOAD 1; GET 1; LE 8; NEW 1; STORE 1; JUMP 2; PUSH 1; RETURN");
        isSound("PUSH 1; STORE 2; LOAD 2; LE 7; PUSH 1; STORE 2; JUMP 2; PUSH 1; RETURN");
        ClosedWorld caught = family("NEW 3; STORE 1; STATIC 0; RETURN; POP; NEW 1; STORE 1; JUMP 2").guard(0, 2, 3, 4)
                .closed();
        due.is("a loop through a handler", caught.typeAt(0, 2, 1), 1);
        due.is("the handler", caught.typeAt(0, 4, 1), 1);
    }

    private void sound() {
        due.says("A method is SOUND when no instruction that is reached breaks any of this.");
        isSound("PUSH 1; RETURN; ADD; LOAD 3; NULL 4; GET 5; JUMP 19");
        isSound("JUMP 3; NULL 0; RETURN; PUSH 1; RETURN");
        isNotSound("LOAD 0; LE 4; PUSH 1; RETURN; NULL 0; RETURN");
        isNotSound("LOAD 0; LE 4; NULL 0; RETURN; PUSH 1; RETURN");
        due.is("a handler that breaks it", family("PUSH 1; RETURN; GET 0; RETURN").guard(0, 0, 1, 2).open().close(), 0);
        due.is("a handler that is not reached", family("PUSH 1; RETURN; GET 0; RETURN").guard(0, 2, 4, 2).open()
                .close(), NONE);
    }

    private void goOnNowhere() {
        due.says("THROW and RETURN go on nowhere.");
        for (String op : new String[] {"THROW", "RETURN"}) {
            ClosedWorld x = family("LOAD 0; " + op + "; PUSH 1; RETURN").closed();
            due.is("behind " + op, x.typeAt(0, 2, 0), NONE);
            isSound("LOAD 0; " + op);
            isSound("LOAD 0; " + op + "; ADD");
        }
    }
}
