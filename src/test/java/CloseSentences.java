/** The sentences of the promises 7 to 12: close, and what a closed program answers about itself. */
final class CloseSentences {
    private static final int NONE = ClosedWorld.NONE;
    private static final int NUMBER = ClosedWorld.NUMBER;
    private static final int UNSET = ClosedWorld.UNSET;
    private static final int LOWEST = Integer.MIN_VALUE;
    private static final int HIGHEST = Integer.MAX_VALUE;
    private static final String END = "PUSH 1; RETURN";

    private final Due due;

    CloseSentences(Due due) {
        this.due = due;
    }

    void ask() {
        closes();
        staysAsItIs();
        typeAt();
        noTypeAt();
        answer();
        slot();
        live();
        targets();
        noTargets();
    }

    private void closes() {
        due.says("`int close()`: Closes the program when method 0 is there, is plain with one argument, and all "
                + "methods are sound; answers NONE then (also when it was closed already; a run stays).");
        ClosedWorld x = new Maker(due).types(NONE, NONE)
                .plain(0, 1, "PUSH 3; PRINT; LOAD 0; SET 0; NEW 0; ISA 0; RETURN").plain(1, 2, END).sent(1, 3, END)
                .open();
        due.is("run before", x.run(0, 10), NONE);
        due.is("close", x.close(), NONE);
        due.is("live", x.live(0), true);
        due.is("once more", x.close(), NONE);
        due.is("no run by that", x.steps(), NONE);
        due.is("run", x.run(5, 10), 0);
        due.is("with a run", x.close(), NONE);
        due.is("result", x.result(), 1);
        due.is("steps", x.steps(), 7);
        due.is("prints", x.prints(), 1);
        due.is("printed", x.printed(0), 3);
        due.is("begun", x.begun(0), 0);
        due.is("objects", x.objects(), 1);
        due.is("kept", x.kept(0), 5);
        due.is("typeAt", x.typeAt(0, 0, 0), NUMBER);
    }

    private void staysAsItIs() {
        due.says("Otherwise it stays as it is, and the answer is 10 when there is no method 0 or it is not plain with "
                + "one argument, else the lowest number of a method that is not sound.");
        ClosedWorld empty = new ClosedWorld();
        due.is("no class", empty.close(), 10);
        due.is("class 0", empty.type(NONE, 0), 0);
        due.is("no method 0", empty.close(), 10);
        for (int arguments = 0; arguments <= 2; arguments++) {
            ClosedWorld x = new Maker(due).types(NONE).plain(0, arguments, END).plain(0, 1, "").open();
            due.is("method 0 with " + arguments + ", and method 1 is not sound", x.close(), arguments == 1 ? 1 : 10);
            due.is("not closed", x.live(0), false);
        }
        due.is("method 0 has a selector", new Maker(due).types(NONE).sent(0, 0, END).open().close(), 10);
        for (int first = 0; first < 10; first++) {
            Maker maker = new Maker(due).types(NONE);
            for (int method = 0; method < 10; method++) {
                maker.plain(0, 1, method < first ? END : method == first || method == 9 ? "POP" : END);
            }
            ClosedWorld x = maker.open();
            due.is("the lowest", x.close(), first);
            due.is("still", x.close(), first);
            due.is("not closed", x.run(0, 10), NONE);
            due.is("no types", x.typeAt(0, 0, 0), NONE);
        }
        ClosedWorld mended = new Maker(due).types(NONE).plain(0, 1, "PUSH 1").open();
        due.is("without an end", mended.close(), 0);
        due.write(mended, 0, "RETURN");
        due.is("with its end", mended.close(), NONE);
        due.is("broken by a guard", mended.guard(0, 0, 1, 0), true);
        due.is("not sound now", mended.close(), 0);
        due.is("not closed now", mended.live(0), false);
    }

    private void typeAt() {
        due.says("`int typeAt(int method, int instruction, int place)`: The type of a local (place 0 .. 3) or of a "
                + "value of the stack (place 4 the lowest, 5 the next, ..) when an instruction is reached: NUMBER, "
                + "UNSET or a class.");
        ClosedWorld x = new Maker(due).types(NONE, 0)
                .plain(0, 1, "NULL 1; STORE 3; PUSH 1; NULL 0; PUSH 1; NEW 1; LOAD 3; LOAD 0; RETURN").sent(1, 0, END)
                .closed();
        int[] full = {NUMBER, UNSET, UNSET, 1, NUMBER, 0, NUMBER, 1, 1, NUMBER};
        for (int at = 2; at <= 8; at++) {
            for (int place = 0; place < 11; place++) {
                due.is("at " + at + " place " + place, x.typeAt(0, at, place), place < 4 + at - 2 ? full[place] : NONE);
            }
        }
        due.is("in front of STORE", x.typeAt(0, 1, 3), UNSET);
        due.is("in a method that is not live", x.typeAt(1, 0, 0), 1);
    }

    private void noTypeAt() {
        due.says("NONE when the program is not closed, there is no such method, the instruction is not reached, or "
                + "there is no such place.");
        ClosedWorld x = new Maker(due).types(NONE).plain(0, 1, "PUSH 1; RETURN; PUSH 1; RETURN").open();
        due.is("not closed", x.typeAt(0, 0, 0), NONE);
        due.is("close", x.close(), NONE);
        due.is("closed", x.typeAt(0, 0, 0), NUMBER);
        for (int method : new int[] {-1, 1, 9, 10, LOWEST, HIGHEST}) {
            due.is("method " + method, x.typeAt(method, 0, 0), NONE);
        }
        for (int instruction : new int[] {-1, 2, 3, 4, 19, 20, 21, LOWEST, HIGHEST}) {
            due.is("instruction " + instruction, x.typeAt(0, instruction, 0), NONE);
        }
        for (int place : new int[] {-1, 5, 9, 10, 11, LOWEST, HIGHEST}) {
            due.is("place " + place, x.typeAt(0, 1, place), NONE);
        }
        due.is("an empty stack", x.typeAt(0, 0, 4), NONE);
        due.is("a stack of one", x.typeAt(0, 1, 4), NUMBER);
        due.is("changed", x.type(NONE, 0), 1);
        due.is("not closed any more", x.typeAt(0, 0, 0), NONE);
    }

    private void answer() {
        due.says("`int answer(int type, int selector)`: The method with which a class answers a selector; "
                + "NONE when there is none, or no such class. (The program need not be closed.)");
        ClosedWorld x = new Maker(due).types(NONE, 0).plain(0, 1, END).sent(0, 0, END).sent(1, 3, END).open();
        for (int round = 0; round < 2; round++) {
            due.is("its own", x.answer(0, 0), 1);
            due.is("its parent's", x.answer(1, 0), 1);
            due.is("its own, the last", x.answer(1, 3), 2);
            due.is("only of the class below", x.answer(0, 3), NONE);
            due.is("of none", x.answer(1, 1), NONE);
            for (int wrong : new int[] {-1, 2, 5, 6, LOWEST, HIGHEST}) {
                due.is("class " + wrong, x.answer(wrong, 0), NONE);
            }
            for (int wrong : new int[] {-1, 4, 5, LOWEST, HIGHEST}) {
                due.is("selector " + wrong, x.answer(0, wrong), NONE);
            }
            due.is("close", x.close(), NONE);
        }
    }

    private void slot() {
        due.says("`int slot(int type, int selector)`: The slot of a selector in the table of a class; "
                + "NONE when it is not in it, or there is no such class. (The program need not be closed.)");
        ClosedWorld x = new Maker(due).types(NONE, 0).plain(0, 1, END).sent(0, 3, END).sent(1, 0, END).sent(1, 2, END)
                .sent(1, 1, END).open();
        for (int round = 0; round < 2; round++) {
            int[] wants = {1, 3, 2, 0};
            for (int selector = 0; selector < 4; selector++) {
                due.is("selector " + selector, x.slot(1, selector), wants[selector]);
                due.is("selector " + selector + " above", x.slot(0, selector), selector == 3 ? 0 : NONE);
            }
            for (int wrong : new int[] {-1, 2, 5, 6, LOWEST, HIGHEST}) {
                due.is("class " + wrong, x.slot(wrong, 3), NONE);
            }
            for (int wrong : new int[] {-1, 4, 5, LOWEST, HIGHEST}) {
                due.is("selector " + wrong, x.slot(0, wrong), NONE);
                due.is("selector " + wrong, x.slot(1, wrong), NONE);
            }
            due.is("close", x.close(), NONE);
        }
    }

    private void live() {
        due.says("`boolean live(int method)`: Whether a method is live; "
                + "false when the program is not closed or there is no such method.");
        ClosedWorld x = new Maker(due).types(NONE).plain(0, 1, "CALL 2; RETURN").plain(0, 0, END).plain(0, 0, END)
                .open();
        due.is("not closed", x.live(0), false);
        due.is("not closed", x.live(2), false);
        due.is("close", x.close(), NONE);
        due.is("method 0", x.live(0), true);
        due.is("method 1", x.live(1), false);
        due.is("method 2", x.live(2), true);
        for (int wrong : new int[] {-1, 3, 9, 10, 31, 32, 33, 34, LOWEST, HIGHEST}) {
            due.is("method " + wrong, x.live(wrong), false);
        }
        due.is("changed", x.code(1, 0, 0), 2);
        due.is("not closed any more", x.live(0), false);
    }

    private void targets() {
        due.says("`int targets(int method, int instruction)`: How many targets a SEND has;");
        String[] made = {"", "NEW 0; POP; ", "NEW 0; POP; NEW 1; POP; ", "NEW 0; POP; NEW 1; POP; NEW 2; POP; ",
            "NEW 0; POP; NEW 1; POP; NEW 2; POP; NEW 3; POP; "};
        for (int count = 0; count < made.length; count++) {
            ClosedWorld x = new Maker(due).types(NONE, 0, 0, 1)
                    .plain(0, 1, made[count] + "NULL 0; PUSH 1; SEND 1; RETURN").sent(0, 1, END).sent(1, 1, END)
                    .sent(2, 1, END).sent(3, 1, END).closed();
            due.is(count + " are made", x.targets(0, 2 * count + 2), count);
        }
    }

    private void noTargets() {
        due.says("NONE when the program is not closed, the method is not live, or there is no SEND at that instruction "
                + "that is reached.");
        String text = "NEW 0; PUSH 1; SEND 0; RETURN; NEW 0; PUSH 1; SEND 0; RETURN";
        ClosedWorld x = new Maker(due).types(NONE).plain(0, 1, text).sent(0, 0, END).plain(0, 0, text).open();
        due.is("not closed", x.targets(0, 2), NONE);
        due.is("close", x.close(), NONE);
        due.is("closed", x.targets(0, 2), 1);
        due.is("not live", x.targets(2, 2), NONE);
        for (int wrong : new int[] {-1, 0, 1, 3, 4, 5, 6, 7, 8, 19, 20, 22, LOWEST, HIGHEST}) {
            due.is("instruction " + wrong, x.targets(0, wrong), NONE);
        }
        for (int wrong : new int[] {-1, 1, 3, 9, 10, 32, LOWEST, HIGHEST}) {
            due.is("method " + wrong, x.targets(wrong, 2), NONE);
        }
        due.is("changed", x.guard(0, 8, 9, 8), true);
        due.is("not closed any more", x.targets(0, 2), NONE);
    }
}
