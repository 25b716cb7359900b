/** The sentences of 'Terms' on throwing, guards, triggering, and how many methods may be running. */
final class ThrowSentences {
    private static final int NONE = ClosedWorld.NONE;

    private final Due due;

    ThrowSentences(Due due) {
        this.due = due;
    }

    void ask() {
        nulled();
        guards();
        leftOut();
        firstGuard();
        localsAndNumber();
        methodsEnd();
        triggering();
        triggeringThrows();
        atMostTenRunning();
        eleventh();
    }

    private void begins(ClosedWorld x, int... orders) {
        for (int type = 0; type < orders.length; type++) {
            due.is("begun " + type, x.begun(type), orders[type]);
        }
    }

    private void nulled() {
        due.says("GET, PUT and SEND throw NULLED when the object is null.");
        String[] texts = {"GET 0; RETURN", "PUSH 1; PUT 0; PUSH 1; RETURN", "PUSH 1; SEND 0; RETURN"};
        int[] wants = {0, 1, 44};
        for (int k = 0; k < 3; k++) {
            ClosedWorld x = new Maker(due).type(NONE, 1)
                    .plain(0, 1, "NEW 0; STORE 1; LOAD 0; LE 6; LOAD 1; JUMP 7; NULL 0; " + texts[k])
                    .sent(0, 0, "PUSH 44; RETURN").closed();
            due.runs(x, 0, 1, -1);
            due.runs(x, 1, 0, wants[k]);
        }
        ClosedWorld stale = new Maker(due).type(NONE, 1).plain(0, 1, "NULL 0; GET 0; RETURN").closed();
        due.runs(stale, 0, 1, -1);
        due.is("there is no object at all", stale.objects(), 0);
    }

    private void guards() {
        due.says("A method may have at most three GUARDS: a range of instructions FROM .. TO - 1 and a HANDLER, an "
                + "instruction.");
        String text = "LOAD 0; LE 7; PUSH 1; PUSH 0; DIV; POP; JUMP 11; PUSH 1; PUSH 0; DIV; POP; PUSH 5; RETURN; "
                + "PUSH 100; SUB; RETURN";
        int[][] wants = {{4, 5, 1, 0}, {3, 4, 1, 1}, {5, 6, 1, 1}, {3, 5, 1, 0}, {4, 6, 1, 0}, {2, 4, 1, 1},
            {9, 10, 0, 0}, {10, 20, 0, 1}, {8, 9, 0, 1}, {0, 20, 0, 0}};
        for (int[] want : wants) {
            ClosedWorld x = new Maker(due).types(NONE).plain(0, 1, text).guard(0, want[0], want[1], 13).closed();
            due.runs(x, want[2], want[3], want[3] == 1 ? -2 : -102);
        }
        ClosedWorld last = new Maker(due).types(NONE).plain(0, 1, "JUMP 2; RETURN; LOAD 0; THROW").open();
        for (int k = 4; k < 18; k++) {
            due.write(last, 0, "POP");
        }
        due.write(last, 0, "THROW; JUMP 1");
        due.is("the last instruction is a handler", last.guard(0, 3, 4, 19), true);
        due.is("close", last.close(), NONE);
        due.runs(last, 31, 0, 31);
        ClosedWorld x = new Maker(due).types(NONE).plain(0, 1, "PUSH 7; THROW; RETURN").plain(0, 0, "PUSH 0; RETURN")
                .open();
        due.is("a first", x.guard(0, 5, 6, 2), true);
        due.is("a second", x.guard(0, 6, 7, 2), true);
        due.is("a third", x.guard(0, 1, 2, 2), true);
        due.is("a fourth", x.guard(0, 0, 1, 2), false);
        due.is("another method has its own", x.guard(1, 0, 1, 1), true);
        due.is("close", x.close(), NONE);
        due.runs(x, 0, 0, 7);
    }

    private void leftOut() {
        due.says("When an instruction throws, a number, what it would have done is left out, and:");
        ClosedWorld divided = new Maker(due).types(NONE)
                .plain(0, 1, "PUSH 6; LOAD 0; DIV; PRINT; PUSH 1; RETURN; RETURN").guard(0, 2, 3, 6).closed();
        due.runs(divided, 0, 0, -2);
        due.is("nothing printed", divided.prints(), 0);
        due.runs(divided, 2, 0, 1);
        due.is("printed", divided.printed(0), 3);
        ClosedWorld set = new Maker(due).types(NONE, NONE).plain(0, 1, "LOAD 0; SET 1; PUSH 1; RETURN; RETURN")
                .plain(0, 0, "PUSH 9; THROW").initialiser(1, 1).guard(0, 1, 2, 4).closed();
        due.runs(set, 5, 0, 9);
        due.is("not set", set.kept(1), 0);
        ClosedWorld made = new Maker(due).types(NONE, NONE).plain(0, 1, "NEW 1; ISA 1; RETURN; RETURN")
                .plain(0, 0, "PUSH 9; THROW").initialiser(1, 1).guard(0, 0, 1, 3).closed();
        due.runs(made, 5, 0, 9);
        due.is("not made", made.objects(), 0);
        ClosedWorld called = new Maker(due).types(NONE, NONE).plain(0, 1, "CALL 2; RETURN; RETURN")
                .plain(0, 0, "PUSH 9; THROW").plain(1, 0, "PUSH 3; PRINT; PUSH 4; RETURN").initialiser(1, 1)
                .guard(0, 0, 1, 2).closed();
        due.runs(called, 5, 0, 9);
        due.is("not run", called.prints(), 0);
    }

    private void firstGuard() {
        due.says("if it is in the range of a guard of its method, it goes on at the handler of the first such guard "
                + "(in the order in which they were given),");
        String text = "LOAD 0; THROW; PUSH 10; MUL; RETURN; PUSH 100; MUL; RETURN; PUSH 1000; MUL; RETURN";
        ClosedWorld wide = new Maker(due).types(NONE).plain(0, 1, text).guard(0, 0, 20, 2).guard(0, 1, 2, 5).closed();
        due.runs(wide, 3, 0, 30);
        ClosedWorld narrow = new Maker(due).types(NONE).plain(0, 1, text).guard(0, 1, 2, 5).guard(0, 0, 20, 2).closed();
        due.runs(narrow, 3, 0, 300);
        ClosedWorld third = new Maker(due).types(NONE).plain(0, 1, text).guard(0, 0, 1, 2).guard(0, 2, 4, 5)
                .guard(0, 1, 3, 8).closed();
        due.runs(third, 3, 0, 3000);
        ClosedWorld other = new Maker(due).types(NONE).plain(0, 1, "LOAD 0; CALL 1; RETURN")
                .plain(0, 1, "LOAD 0; THROW; RETURN").guard(0, 0, 1, 2).guard(1, 0, 1, 2).closed();
        due.runs(other, 3, 1, 3);
        ClosedWorld again = new Maker(due).types(NONE)
                .plain(0, 1, "LOAD 0; THROW; PUSH 1; SUB; STORE 0; LOAD 0; LE 8; JUMP 0; LOAD 0; RETURN")
                .guard(0, 1, 2, 2).closed();
        due.runs(again, 3, 0, 0);
        due.is("as often as it throws", again.steps(), 8 + 8 + 7 + 2);
    }

    private void localsAndNumber() {
        due.says("with the locals as they are and just that number on the stack;");
        ClosedWorld x = new Maker(due).types(NONE).plain(0, 1, "PUSH 2; STORE 1; PUSH 3; STORE 0; PUSH 6; PUSH 7; "
                + "PUSH 8; PUSH 9; PUSH 4; THROW; LOAD 0; LOAD 1; ADD; ADD; RETURN").guard(0, 9, 10, 10).closed();
        due.runs(x, 50, 0, 9);
        due.is("one value", x.typeAt(0, 10, 5), NONE);
        ClosedWorld full = new Maker(due).types(NONE)
                .plain(0, 1, "PUSH 1; PUSH 1; PUSH 1; PUSH 1; PUSH 1; LOAD 0; THROW; PUSH 1; PUSH 1; PUSH 1; PUSH 1; "
                + "PUSH 1; ADD; ADD; ADD; ADD; ADD; RETURN").guard(0, 6, 7, 7).closed();
        due.runs(full, 50, 0, 55);
    }

    private void methodsEnd() {
        due.says("if not, the method ends, and the instruction that ran it throws that number.");
        String[] texts = {"CALL 1; RETURN; RETURN", "NEW 1; LOAD 0; SEND 0; RETURN; RETURN",
            "STATIC 2; RETURN; RETURN"};
        int[] from = {0, 2, 0};
        for (int k = 0; k < 3; k++) {
            String text = texts[k];
            int at = from[k];
            int handler = text.split(";").length - 1;
            ClosedWorld loose = world(text).closed();
            due.runs(loose, 1, 1, 8);
            due.is("nothing behind it ran", loose.prints(), 0);
            due.runs(world(text).guard(0, at, at + 1, handler).closed(), 1, 0, 8);
            due.runs(world(text).guard(0, at + 1, at + 2, handler).closed(), 1, 1, 8);
        }
        ClosedWorld through = new Maker(due).types(NONE).plain(0, 1, "CALL 1; RETURN; RETURN")
                .plain(0, 0, "CALL 2; PRINT; PUSH 1; RETURN").plain(0, 0, "PUSH 6; THROW").guard(0, 0, 1, 2)
                .guard(1, 1, 2, 3).closed();
        due.runs(through, 0, 0, 6);
        due.is("ended", through.prints(), 0);
    }

    /** Method 1, method 2 of selector 0 and method 3, the initialiser of class 2, throw 8 and would print then. */
    private Maker world(String text) {
        String toss = "PUSH 8; THROW; PRINT; PUSH 0; RETURN";
        return new Maker(due).types(NONE, NONE, NONE).plain(0, 1, text).plain(0, 0, toss).sent(1, 0, toss)
                .plain(0, 0, toss).initialiser(2, 3);
    }

    private void triggering() {
        due.says("TRIGGERING class c: as long as c or an ancestor of it is not BEGUN: of these the farthest ancestor "
                + "that is not begun becomes begun, and its initialiser, if it has one, is run.");
        ClosedWorld x = new Maker(due).types(NONE, 0, 1, 2, NONE)
                .plain(4, 1, "LOAD 0; LE 4; STATIC 1; POP; STATIC 3; RETURN")
                .plain(4, 0, "PUSH 10; PRINT; PUSH 0; RETURN").plain(4, 0, "PUSH 12; PRINT; PUSH 0; RETURN")
                .plain(4, 0, "PUSH 13; PRINT; PUSH 0; RETURN").initialiser(0, 1).initialiser(2, 2).initialiser(3, 3)
                .closed();
        for (int argument = 0; argument <= 1; argument++) {
            due.runs(x, argument, 0, 0);
            begins(x, 1, 2, 3, 4, 0);
            due.is("prints", x.prints(), 3);
            due.is("the farthest", x.printed(0), 10);
            due.is("the one without an initialiser is left out", x.printed(1), 12);
            due.is("the nearest", x.printed(2), 13);
        }
        ClosedWorld within = new Maker(due).types(NONE, 0, 1).plain(0, 1, "STATIC 2; RETURN")
                .plain(0, 0, "STATIC 2; PRINT; PUSH 0; RETURN")
                .plain(0, 0, "PUSH 6; SET 1; PUSH 7; SET 2; PUSH 0; RETURN").initialiser(0, 1).initialiser(1, 2)
                .closed();
        due.runs(within, 0, 0, 7);
        begins(within, 0, 1, 2);
        due.is("an initialiser that triggers the classes below", within.printed(0), 7);
        due.is("each is run once", within.prints(), 1);
        ClosedWorld same = new Maker(due).types(NONE, 0).plain(0, 1, "STATIC 1; RETURN")
                .plain(0, 0, "PUSH 3; PRINT; PUSH 0; RETURN").initialiser(0, 1).initialiser(1, 1).closed();
        due.runs(same, 0, 0, 0);
        due.is("one method for two classes is run for each", same.prints(), 2);
        ClosedWorld cycle = new Maker(due).types(NONE, NONE).plain(0, 1, "STATIC 0; RETURN")
                .plain(0, 0, "STATIC 1; SET 0; PUSH 0; RETURN")
                .plain(0, 0, "STATIC 0; PUSH 5; ADD; SET 1; PUSH 0; RETURN").initialiser(0, 1).initialiser(1, 2)
                .closed();
        due.runs(cycle, 0, 0, 5);
        begins(cycle, 0, 1);
    }

    private void triggeringThrows() {
        due.says("When that throws, the triggering instruction throws the same, and triggers no further.");
        String[] texts = {"NEW 3; ISA 3; RETURN; RETURN", "STATIC 3; RETURN; PUSH 0; RETURN",
            "LOAD 0; SET 3; PUSH 3; RETURN", "CALL 3; RETURN; PUSH 0; RETURN"};
        for (String text : texts) {
            Maker maker = new Maker(due).types(NONE, NONE, 1, 2).plain(0, 1, text).plain(0, 0, "PUSH 0; RETURN")
                    .plain(0, 0, "PUSH 61; THROW").plain(3, 0, "PUSH 3; PRINT; PUSH 0; RETURN").initialiser(1, 1)
                    .initialiser(2, 2).initialiser(3, 3);
            ClosedWorld x = maker.closed();
            due.runs(x, 0, 1, 61);
            begins(x, 0, 1, 2, NONE);
            due.is("no further", x.prints(), 0);
            due.is("no object", x.objects(), 0);
        }
        ClosedWorld again = new Maker(due).types(NONE, NONE, 1).plain(0, 1, "STATIC 2; RETURN; PRINT; STATIC 2; RETURN")
                .plain(0, 0, "PUSH 61; THROW").plain(0, 0, "PUSH 62; THROW").initialiser(1, 1).initialiser(2, 2)
                .guard(0, 0, 1, 2).closed();
        due.runs(again, 0, 1, 62);
        begins(again, 0, 1, 2);
        due.is("what threw first is begun", again.printed(0), 61);
        ClosedWorld start = new Maker(due).types(NONE, 0).plain(1, 1, "PUSH 1; PRINT; PUSH 0; RETURN")
                .plain(0, 0, "PUSH 61; THROW").initialiser(0, 1).guard(0, 0, 4, 3).closed();
        due.runs(start, 0, 1, 61);
        begins(start, 0, NONE);
        due.is("method 0 did not run", start.prints(), 0);
    }

    /** Method 0 calls itself as often as its argument says, and then does this; method 1 answers 5. */
    private ClosedWorld down(String bottom, boolean initialised) {
        Maker maker = new Maker(due).types(NONE, NONE, NONE)
                .plain(0, 1, "LOAD 0; LE 7; LOAD 0; PUSH 1; SUB; CALL 0; RETURN; " + bottom)
                .plain(1, 0, "PUSH 5; RETURN").sent(2, 0, "PUSH 6; RETURN")
                .plain(0, 0, "PUSH 9; PRINT; PUSH 0; RETURN");
        return (initialised ? maker.initialiser(1, 3) : maker).closed();
    }

    private void atMostTenRunning() {
        due.says("At most ten methods may be running, the first one and initialisers counted;");
        ClosedWorld calls = down("PUSH 4; RETURN", false);
        due.runs(calls, 9, 0, 4);
        due.runs(calls, 10, 1, -5);
        ClosedWorld called = down("CALL 1; RETURN", false);
        due.runs(called, 8, 0, 5);
        due.runs(called, 9, 1, -5);
        ClosedWorld sent = down("NEW 2; PUSH 1; SEND 0; RETURN", false);
        due.runs(sent, 8, 0, 6);
        due.runs(sent, 9, 1, -5);
        ClosedWorld begun = down("STATIC 1; RETURN", true);
        due.runs(begun, 8, 0, 0);
        due.is("the initialiser was the tenth", begun.prints(), 1);
        due.runs(begun, 9, 1, -5);
        due.is("the initialiser would be the eleventh", begun.prints(), 0);
        for (int more = 7; more <= 9; more++) {
            ClosedWorld below = new Maker(due).types(NONE, NONE).plain(0, 1, "STATIC 1; RETURN")
                    .plain(0, 0, "PUSH " + more + "; CALL 2; RETURN")
                    .plain(0, 1, "LOAD 0; LE 7; LOAD 0; PUSH 1; SUB; CALL 2; RETURN; PUSH 4; RETURN").initialiser(1, 1)
                    .closed();
            due.is("below an initialiser, " + more, below.run(0, 2000), more > 7 ? 1 : 0);
            due.is("result", below.result(), more > 7 ? -5 : 0);
        }
        for (int more = 8; more <= 9; more++) {
            ClosedWorld first = new Maker(due).types(NONE).plain(0, 1, "PUSH 3; RETURN")
                    .plain(0, 0, "PUSH " + more + "; CALL 2; RETURN")
                    .plain(0, 1, "LOAD 0; LE 7; LOAD 0; PUSH 1; SUB; CALL 2; RETURN; PUSH 4; RETURN").initialiser(0, 1)
                    .closed();
            due.runs(first, 0, more - 8, more > 8 ? -5 : 3);
        }
        ClosedWorld ended = down("CALL 1; POP; CALL 1; POP; CALL 1; RETURN", true);
        due.runs(ended, 8, 0, 5);
    }

    private void eleventh() {
        due.says("when an eleventh is to be run (after triggering, and after the test for null), the instruction that "
                + "is to run it throws DEEP.");
        ClosedWorld called = down("CALL 1; RETURN", false);
        due.runs(called, 9, 1, -5);
        begins(called, 0, 1, NONE);
        due.is("steps", called.steps(), 9 * 6 + 3);
        ClosedWorld nulled = down("NULL 2; PUSH 1; SEND 0; RETURN", false);
        due.runs(nulled, 9, 1, -1);
        ClosedWorld begun = down("CALL 1; RETURN", true);
        due.runs(begun, 9, 1, -5);
        begins(begun, 0, 1, NONE);
        due.is("its initialiser did not run", begun.prints(), 0);
        ClosedWorld chain = new Maker(due).types(NONE, NONE, 1)
                .plain(0, 1, "LOAD 0; LE 7; LOAD 0; PUSH 1; SUB; CALL 0; RETURN; STATIC 2; RETURN; PRINT; STATIC 2; "
                + "RETURN").plain(0, 0, "PUSH 9; PRINT; PUSH 0; RETURN").initialiser(1, 1).guard(0, 7, 8, 9).closed();
        due.runs(chain, 9, 0, 0);
        due.is("DEEP is handled", chain.printed(0), -5);
        due.is("the initialiser is not run later", chain.prints(), 1);
        begins(chain, 0, 1, 2);
        ClosedWorld caller = new Maker(due).types(NONE)
                .plain(0, 1, "LOAD 0; PRINT; LOAD 0; PUSH 1; ADD; CALL 0; RETURN; RETURN").guard(0, 5, 6, 7).closed();
        due.runs(caller, 1, 0, -5);
        due.is("ten began", caller.prints(), 10);
        due.is("the tenth throws and handles it", caller.steps(), 10 * 6 + 1 + 9);
    }
}
