/** The sentences of 'Terms' on classes, methods, what a class answers, and its table. */
final class ClassSentences {
    private static final int NONE = ClosedWorld.NONE;
    private static final int NUMBER = ClosedWorld.NUMBER;
    private static final int UNSET = ClosedWorld.UNSET;

    private final Due due;

    ClassSentences(Due due) {
        this.due = due;
    }

    void ask() {
        atMostSixClasses();
        parents();
        ancestors();
        fields();
        statics();
        atMostTenMethods();
        methodsBelongToAClass();
        plainOrSent();
        allAnswerANumber();
        answers();
        tables();
    }

    private void atMostSixClasses() {
        due.says("CLASSES 0, 1, .., at most six;");
        ClosedWorld x = new ClosedWorld();
        for (int k = 0; k < 6; k++) {
            due.is("type", x.type(NONE, 6), k);
        }
        due.is("a seventh", x.type(NONE, 0), NONE);
        due.is("a seventh below another", x.type(5, 0), NONE);
        due.is("there is no seventh", x.method(6, NONE, 1), NONE);
        due.is("there is a sixth", x.method(5, NONE, 1), 0);
    }

    private void parents() {
        due.says("each has a PARENT, an earlier class, or none;");
        ClosedWorld x = new ClosedWorld();
        for (int k = 0; k < 6; k++) {
            due.is("its own parent", x.type(k, 0), NONE);
            due.is("a later one", x.type(k + 1, 0), NONE);
            due.is("below NONE", x.type(-2, 0), NONE);
            due.is("none, or the one in front", x.type(k % 2 == 0 ? NONE : k - 1, 0), k);
        }
        ClosedWorld first = new Maker(due).types(NONE, 0, 0, 0, 0, 0).sent(0, 0, "").open();
        for (int k = 0; k < 6; k++) {
            due.is("all below class 0", first.answer(k, 0), 0);
        }
    }

    private void ancestors() {
        due.says("its ancestors are its parent and the ancestors of that; a class is OF itself and of its ancestors.");
        int[] parents = {NONE, 0, 1, 0, NONE, 2};
        String[] of = {"0", "01", "012", "03", "4", "0125"};
        for (int type = 0; type < 6; type++) {
            for (int above = 0; above < 6; above++) {
                ClosedWorld x = new Maker(due).types(parents).plain(0, 1, "NEW " + type + "; ISA " + above + "; RETURN")
                        .closed();
                due.is(type + " of " + above + ": run", x.run(0, 9), 0);
                due.is(type + " of " + above, x.result(), of[type].indexOf('0' + above) >= 0 ? 1 : 0);
            }
        }
    }

    private void fields() {
        due.says("An object has the fields 0, 1, .. of its class: first those of the parent, then its own; "
                + "at most six in all.");
        ClosedWorld x = new Maker(due).type(NONE, 2).type(0, 1).type(1, 3)
                .plain(0, 1, "NEW 2; STORE 1; LOAD 1; PUSH 7; SEND 0; POP; LOAD 1; GET 0; PRINT; LOAD 1; GET 1; PRINT; "
                + "LOAD 1; GET 2; PRINT; LOAD 1; GET 5; RETURN")
                .sent(0, 0, "LOAD 0; LOAD 1; PUT 0; LOAD 0; PUSH 8; PUT 1; LOAD 0; PUSH 9; SEND 1; RETURN")
                .sent(0, 1, "PUSH 0; RETURN").sent(2, 1, "LOAD 0; LOAD 1; PUT 2; LOAD 0; PUSH 11; PUT 5; PUSH 0; "
                + "RETURN").closed();
        due.runs(x, 0, 0, 11);
        int[] wants = {7, 8, 9};
        for (int field = 0; field < 3; field++) {
            due.is("field " + field, x.printed(field), wants[field]);
        }
        int[] counts = {2, 3, 6};
        for (int type = 0; type < 3; type++) {
            for (int field = 0; field < 6; field++) {
                ClosedWorld y = new Maker(due).type(NONE, 2).type(0, 1).type(1, 3)
                        .plain(0, 1, "NULL " + type + "; GET " + field + "; RETURN").open();
                due.is("class " + type + ", field " + field, y.close(), field < counts[type] ? NONE : 0);
            }
        }
        ClosedWorld full = new Maker(due).type(NONE, 6).open();
        due.is("a seventh field", full.type(0, 1), NONE);
        due.is("no further field", full.type(0, 0), 1);
        due.is("seven at once", full.type(NONE, 7), NONE);
    }

    private void statics() {
        due.says("Each class has one STATIC number, and may have an INITIALISER.");
        ClosedWorld x = new Maker(due).types(NONE, 0, NONE)
                .plain(2, 1, "PUSH 4; SET 0; PUSH 5; SET 1; STATIC 0; PRINT; PUSH 3; SET 0; STATIC 1; PRINT; STATIC 2; "
                + "RETURN").plain(2, 0, "PUSH 6; SET 2; PUSH 0; RETURN").initialiser(2, 1).closed();
        due.runs(x, 0, 0, 6);
        due.is("of the class, not set by the one below it", x.printed(0), 4);
        due.is("of the one below it, not set by its parent", x.printed(1), 5);
        due.is("only class 2 has an initialiser", x.steps(), 4 + 12);
    }

    private void atMostTenMethods() {
        due.says("METHODS 0, 1, .., at most ten.");
        ClosedWorld x = new Maker(due).types(NONE, 0, 1).open();
        for (int k = 0; k < 10; k++) {
            due.is("method", k < 8 ? x.method(k / 4, k % 4, 0) : x.method(2, NONE, k % 3), k);
        }
        due.is("an eleventh, plain", x.method(2, NONE, 0), NONE);
        due.is("an eleventh, with a selector", x.method(2, 0, 0), NONE);
        due.is("there is no eleventh", x.code(10, 0, 0), NONE);
        due.is("there is a tenth", x.code(9, 0, 0), 0);
        due.is("the class answers as it did", x.answer(2, 0), 4);
    }

    private void methodsBelongToAClass() {
        due.says("A method belongs to a class.");
        ClosedWorld x = new Maker(due).types(NONE, NONE, NONE).plain(1, 1, "CALL 1; RETURN")
                .plain(2, 0, "PUSH 3; RETURN").closed();
        due.runs(x, 0, 0, 3);
        due.is("the class of no method", x.begun(0), NONE);
        due.is("the class of method 0", x.begun(1), 0);
        due.is("the class of method 1", x.begun(2), 1);
    }

    private void plainOrSent() {
        due.says("It is PLAIN, with 0 to 2 arguments, all of them numbers; "
                + "or it has a SELECTOR 0 .. 3, is sent to an object (the RECEIVER) and has one argument, a number.");
        String end = "PUSH 0; RETURN";
        ClosedWorld x = new Maker(due).types(NONE, NONE).plain(0, 1, end).plain(0, 0, end).plain(0, 2, end)
                .sent(1, 0, end).sent(1, 3, end).closed();
        int[][] locals = {{NUMBER, UNSET}, {UNSET, UNSET}, {NUMBER, NUMBER}, {1, NUMBER}, {1, NUMBER}};
        for (int method = 0; method < 5; method++) {
            for (int local = 0; local < 4; local++) {
                due.is("local " + local + " of " + method, x.typeAt(method, 0, local),
                        local < 2 ? locals[method][local] : UNSET);
            }
        }
        due.is("fewer arguments", x.method(0, NONE, -1), NONE);
        due.is("more arguments", x.method(0, NONE, 3), NONE);
        due.is("a lower selector", x.method(0, -2, 1), NONE);
        due.is("a higher selector", x.method(0, 4, 1), NONE);
        String[] wrong = {"NULL 0; CALL 0; RETURN", "NULL 0; PUSH 1; CALL 1; RETURN", "PUSH 1; NULL 0; CALL 1; RETURN",
            "NULL 0; NULL 0; SEND 0; RETURN", "PUSH 1; PUSH 1; SEND 0; RETURN"};
        for (String text : wrong) {
            ClosedWorld y = new Maker(due).types(NONE).plain(0, 1, text).plain(0, 2, end).sent(0, 0, end).open();
            due.is(text, y.close(), 0);
        }
    }

    private void allAnswerANumber() {
        due.says("All answer a number.");
        ClosedWorld x = new Maker(due).types(NONE).plain(0, 1, "CALL 1; NEW 0; PUSH 1; SEND 2; ADD; RETURN")
                .plain(0, 0, "PUSH 20; RETURN").sent(0, 2, "PUSH 22; RETURN").closed();
        due.is("behind CALL", x.typeAt(0, 1, 4), NUMBER);
        due.is("behind SEND", x.typeAt(0, 4, 5), NUMBER);
        due.runs(x, 0, 0, 42);
        for (int method = 0; method < 3; method++) {
            String end = "NULL 0; RETURN";
            ClosedWorld y = new Maker(due).types(NONE).plain(0, 1, method == 0 ? end : "PUSH 0; RETURN")
                    .plain(0, 0, method == 1 ? end : "PUSH 0; RETURN").sent(0, 2, method == 2 ? end : "PUSH 0; RETURN")
                    .open();
            due.is("method " + method + " would answer an object", y.close(), method);
        }
    }

    private void answers() {
        due.says("A class ANSWERS a selector with its own method of that selector, or, when it has none, with that "
                + "with which its parent answers it, if there is one.");
        ClosedWorld x = new Maker(due).types(NONE, 0, 1, 2, 3, NONE).sent(0, 0, "").sent(2, 0, "").sent(4, 1, "")
                .sent(1, 3, "").plain(5, 0, "").open();
        int[][] wants = {{0, NONE, NONE, NONE}, {0, NONE, NONE, 3}, {1, NONE, NONE, 3}, {1, NONE, NONE, 3},
            {1, 2, NONE, 3}, {NONE, NONE, NONE, NONE}};
        for (int type = 0; type < 6; type++) {
            for (int selector = 0; selector < 4; selector++) {
                due.is("class " + type + ", selector " + selector, x.answer(type, selector), wants[type][selector]);
            }
        }
        due.is("its own comes later than that of a class below", x.method(3, 1, 0), 5);
        due.is("class 3 has its own", x.answer(3, 1), 5);
        due.is("class 4 keeps its own", x.answer(4, 1), 2);
        due.is("class 2 is above them", x.answer(2, 1), NONE);
    }

    private void tables() {
        due.says("THE TABLE of a class begins with the selectors of the table of its parent, in their order; "
                + "behind them come the selectors of its own methods that are not there yet, in the order in which the "
                + "methods were made; the place in the table, from 0, is the selector's SLOT.");
        ClosedWorld x = new Maker(due).types(NONE, 0, 1, NONE).sent(1, 3, "").sent(1, 0, "").sent(2, 1, "")
                .sent(0, 2, "").plain(0, 0, "").sent(0, 0, "").sent(2, 2, "").sent(2, 3, "").open();
        int[][] wants = {{1, NONE, 0, NONE}, {1, NONE, 0, 2}, {1, 3, 0, 2}, {NONE, NONE, NONE, NONE}};
        for (int type = 0; type < 4; type++) {
            for (int selector = 0; selector < 4; selector++) {
                due.is("class " + type + ", selector " + selector, x.slot(type, selector), wants[type][selector]);
            }
        }
        due.is("a further one above", x.method(0, 1, 0), 8);
        due.is("goes in front of those below", x.slot(2, 1), 2);
        due.is("which come behind it", x.slot(2, 3), 3);
        due.is("in each table below", x.slot(1, 1), 2);
    }
}
