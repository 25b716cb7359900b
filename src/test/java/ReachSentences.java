/** The sentences of 'Terms' on what can be reached, on calls that are refused, and on changes. */
final class ReachSentences {
    private static final int NONE = ClosedWorld.NONE;
    private static final String END = "PUSH 1; RETURN";

    private final Due due;

    ReachSentences(Due due) {
        this.due = due;
    }

    void ask() {
        inShort();
        start();
        touched();
        made();
        statics();
        calls();
        sends();
        refused();
        changed();
        constants();
    }

    private void lives(ClosedWorld x, int... lives) {
        for (int method = 0; method < lives.length; method++) {
            due.is("live " + method, x.live(method), lives[method] == 1);
        }
    }

    private void inShort() {
        due.says("A translator for programs that are known as a whole: classes with fields and methods, whose code "
                + "works on a stack.");
        due.says("Closing the program checks the types of all code, lays out tables of methods, and finds out what can "
                + "be reached at all; a closed program is run, with checks, exceptions, initialisers at their first "
                + "use, and bounds.");
        ClosedWorld x = new Maker(due).type(NONE, 1).plain(0, 1, "NEW 0; LOAD 0; SEND 1; RETURN")
                .sent(0, 1, "LOAD 1; RETURN").closed();
        due.is("type", x.typeAt(0, 2, 4), 0);
        due.is("slot", x.slot(0, 1), 0);
        due.is("targets", x.targets(0, 2), 1);
        due.runs(x, 5, 0, 5);

        due.says("An object is used for at most 512 calls after it has been made; what later calls answer is free.");
        ClosedWorld used = new Maker(due).types(NONE).plain(0, 1, "LOAD 0; PRINT; NEW 0; ISA 0; RETURN").closed();
        int calls = 8;
        for (int round = 0; calls + 4 <= 512; round++) {
            due.is("run " + round, used.run(round, 2000), 0);
            due.is("printed in run " + round, used.printed(0), round);
            due.is("steps of run " + round, used.steps(), 5);
            due.is("objects of run " + round, used.objects(), 1);
            calls += 4;
        }
    }

    private void start() {
        due.says("WHAT CAN BE REACHED, in a closed program: method 0 is LIVE, and its class is touched.");
        ClosedWorld x = new Maker(due).types(NONE, NONE).plain(1, 1, END).plain(0, 0, END).plain(0, 0, END)
                .initialiser(0, 1).initialiser(1, 2).open();
        lives(x, 0, 0, 0);
        due.is("close", x.close(), NONE);
        lives(x, 1, 0, 1);
        due.is("another initialiser", x.initialiser(1, 1), true);
        due.is("close", x.close(), NONE);
        lives(x, 1, 1, 0);
    }

    private void touched() {
        due.says("When a class is touched, its ancestors are too, and the initialisers of all these are live.");
        ClosedWorld x = new Maker(due).types(NONE, 0, 1, 1, 2).plain(4, 1, END).plain(0, 0, END).plain(0, 0, END)
                .plain(0, 0, END).plain(0, 0, END).initialiser(0, 1).initialiser(1, 2).initialiser(3, 3)
                .initialiser(4, 4).closed();
        lives(x, 1, 1, 1, 0, 1);
        ClosedWorld above = new Maker(due).types(NONE, 0).plain(0, 1, END).plain(0, 0, END).initialiser(1, 1).closed();
        lives(above, 1, 0);
        ClosedWorld not = new Maker(due).types(NONE, NONE).plain(0, 1, END).plain(1, 0, END).plain(0, 0, END)
                .initialiser(0, 1).initialiser(1, 2).closed();
        lives(not, 1, 1, 0);
    }

    /**
     * Class 0, class 1, which is of class 0, and class 2 have the initialisers 1, 2 and 3; method 4 is plain, of
     * class 1; method 0 is of class 3.
     */
    private ClosedWorld initialised(String text) {
        return new Maker(due).types(NONE, 0, NONE, NONE).plain(3, 1, text).plain(3, 0, END).plain(3, 0, END)
                .plain(3, 0, END).plain(1, 0, END).initialiser(0, 1).initialiser(1, 2).initialiser(2, 3).closed();
    }

    private void made() {
        due.says("For each instruction that is reached in a live method: NEW makes class a MADE, and touches it;");
        lives(initialised("NEW 1; ISA 1; RETURN"), 1, 1, 1, 0, 0);
        lives(initialised("NEW 0; ISA 1; RETURN"), 1, 1, 0, 0, 0);
        lives(initialised("PUSH 1; RETURN; NEW 1; ISA 1; RETURN"), 1, 0, 0, 0, 0);
        lives(initialised("NULL 1; CAST 0; ISA 2; RETURN"), 1, 0, 0, 0, 0);
        ClosedWorld dead = new Maker(due).types(NONE, NONE).plain(0, 1, "NULL 0; PUSH 1; SEND 0; RETURN")
                .plain(0, 0, "NEW 0; NEW 1; ISA 1; RETURN").sent(0, 0, END).plain(0, 0, END).initialiser(1, 3).closed();
        lives(dead, 1, 0, 0, 0);
        due.is("made in a method that is not live", dead.targets(0, 2), 0);
        ClosedWorld caught = new Maker(due).types(NONE, NONE).plain(0, 1, "PUSH 1; RETURN; NEW 1; ISA 1; RETURN")
                .plain(0, 0, END).initialiser(1, 1).guard(0, 0, 1, 2).closed();
        lives(caught, 1, 1);
    }

    private void statics() {
        due.says("STATIC and SET touch it;");
        lives(initialised("STATIC 1; RETURN"), 1, 1, 1, 0, 0);
        lives(initialised("PUSH 1; SET 1; PUSH 1; RETURN"), 1, 1, 1, 0, 0);
        lives(initialised("STATIC 2; SET 0; PUSH 1; RETURN"), 1, 1, 0, 1, 0);
        ClosedWorld x = new Maker(due).types(NONE).plain(0, 1, "STATIC 0; SET 0; NULL 0; PUSH 1; SEND 0; RETURN")
                .sent(0, 0, END).closed();
        due.is("but do not make it made", x.targets(0, 4), 0);
    }

    private void calls() {
        due.says("CALL makes method a live, and touches its class;");
        lives(initialised("CALL 4; RETURN"), 1, 1, 1, 0, 1);
        lives(initialised("CALL 1; RETURN"), 1, 1, 0, 0, 0);
        lives(initialised("PUSH 1; CALL 0; RETURN"), 1, 0, 0, 0, 0);
        ClosedWorld noSend = new Maker(due).types(NONE).plain(0, 1, "NEW 0; PUSH 1; CALL 1; RETURN").plain(0, 1, END)
                .sent(0, 1, END).closed();
        lives(noSend, 1, 1, 0);
        ClosedWorld chain = new Maker(due).types(NONE).plain(0, 1, "CALL 9; RETURN").plain(0, 0, END)
                .plain(0, 0, "CALL 1; RETURN").plain(0, 0, "CALL 2; RETURN").plain(0, 0, "CALL 3; RETURN")
                .plain(0, 0, "CALL 4; RETURN").plain(0, 0, "CALL 5; RETURN").plain(0, 0, "CALL 6; RETURN")
                .plain(0, 0, "CALL 7; RETURN").plain(0, 0, "CALL 8; RETURN").closed();
        lives(chain, 1, 1, 1, 1, 1, 1, 1, 1, 1, 1);
    }

    /** Classes 0, 1 of 0, 2 of 0, 3 of 1 answer selector 2 with the methods 1, 2, 3, 2; class 4, alone, with 4. */
    private ClosedWorld family(String text) {
        return new Maker(due).types(NONE, 0, 0, 1, NONE).plain(0, 1, text).sent(0, 2, END).sent(1, 2, END)
                .sent(2, 2, END).sent(4, 2, END).closed();
    }

    private void sends() {
        due.says("SEND, on a stack where r is of type c, makes live the methods with which those made classes that are "
                + "of c answer the selector: these different methods are its TARGETS.");
        ClosedWorld none = family("NULL 0; PUSH 1; SEND 2; RETURN");
        due.is("none is made", none.targets(0, 2), 0);
        lives(none, 1, 0, 0, 0, 0);
        ClosedWorld other = family("NEW 4; POP; NULL 0; PUSH 1; SEND 2; RETURN");
        due.is("none of class 0", other.targets(0, 4), 0);
        lives(other, 1, 0, 0, 0, 0);
        ClosedWorld above = family("NEW 0; POP; NULL 1; PUSH 1; SEND 2; RETURN");
        due.is("one above class 1", above.targets(0, 4), 0);
        lives(above, 1, 0, 0, 0, 0);
        ClosedWorld same = family("NEW 1; POP; NEW 3; POP; NULL 0; PUSH 1; SEND 2; RETURN");
        due.is("two classes with one method", same.targets(0, 6), 1);
        lives(same, 1, 0, 1, 0, 0);
        ClosedWorld all = family("NEW 0; POP; NEW 1; POP; NEW 2; POP; NEW 3; POP; NEW 4; POP; NULL 0; PUSH 1; SEND 2; "
                + "RETURN");
        due.is("all of class 0", all.targets(0, 12), 3);
        lives(all, 1, 1, 1, 1, 0);
        ClosedWorld behind = family("NULL 0; PUSH 1; SEND 2; NEW 2; POP; RETURN");
        due.is("made behind it", behind.targets(0, 2), 1);
        lives(behind, 1, 0, 0, 1, 0);
        due.is("another class", behind.type(NONE, 0), 5);
        due.is("close", behind.close(), NONE);
        due.is("closed anew", behind.targets(0, 2), 1);
        ClosedWorld unmade = new Maker(due).types(NONE).plain(0, 1, "NULL 0; PUSH 1; SEND 0; RETURN")
                .plain(0, 0, "NEW 0; ISA 0; RETURN").sent(0, 0, END).plain(0, 0, END).initialiser(0, 1).closed();
        due.is("made by an initialiser", unmade.targets(0, 2), 1);
        lives(unmade, 1, 1, 1, 0);
        due.is("another initialiser", unmade.initialiser(0, 3), true);
        due.is("close", unmade.close(), NONE);
        due.is("made no more", unmade.targets(0, 2), 0);
        lives(unmade, 1, 0, 0, 1);
        ClosedWorld untouched = new Maker(due).types(NONE, 0).plain(0, 1, "NULL 0; PUSH 1; SEND 0; NEW 0; POP; RETURN")
                .sent(0, 0, "NEW 1; ISA 1; RETURN").sent(1, 0, END).closed();
        due.is("made by a target", untouched.targets(0, 2), 2);
        lives(untouched, 1, 1, 1);
    }

    /** What the program answers about itself and its run, as one text. */
    private static String answers(ClosedWorld x) {
        StringBuilder text = new StringBuilder();
        for (int type = 0; type < 3; type++) {
            text.append(x.begun(type)).append(' ').append(x.kept(type)).append(' ');
            for (int selector = 0; selector < 4; selector++) {
                text.append(x.answer(type, selector)).append(' ').append(x.slot(type, selector)).append(' ');
            }
        }
        for (int method = 0; method < 4; method++) {
            text.append(x.live(method)).append(' ').append(x.targets(method, 2)).append(' ');
            for (int at = 0; at < 6; at++) {
                text.append(x.typeAt(method, at, 0)).append(' ').append(x.typeAt(method, at, 4)).append(' ');
            }
        }
        return text.append(x.result()).append(' ').append(x.steps()).append(' ').append(x.prints()).append(' ')
                .append(x.printed(0)).append(' ').append(x.objects()).toString();
    }

    private Maker closedAndRun() {
        return new Maker(due).type(NONE, 2).type(0, 1).plain(0, 1, "NEW 1; LOAD 0; SEND 2; PRINT; LOAD 0; RETURN")
                .sent(1, 2, "LOAD 1; SET 1; LOAD 1; RETURN").plain(0, 0, END).initialiser(1, 2);
    }

    private void refused() {
        due.says("A call that is refused changes nothing.");
        for (int which = 0; which < 24; which++) {
            ClosedWorld x = closedAndRun().closed();
            due.runs(x, 7, 0, 7);
            String before = answers(x);
            due.is("refused call " + which, refuse(x, which), true);
            due.is("nothing changed by call " + which, answers(x).equals(before), true);
            due.is("closed still", x.run(8, 2000), 0);
            due.is("a class has the next number", x.type(NONE, 0), 2);
            due.is("a method has the next number", x.method(2, 0, 0), 3);
            due.is("an instruction has the next number", x.code(0, 0, 0), 6);
        }
        refusedWhenFull();
        ClosedWorld open = new Maker(due).types(NONE).plain(0, 1, "PUSH 1").open();
        due.is("a close that fails", open.close(), 0);
        due.is("a run of what is open", open.run(0, 10), NONE);
        due.is("an instruction has the next number", open.code(0, 22, 0), 1);
        due.is("close", open.close(), NONE);
    }

    private void refusedWhenFull() {
        Maker maker = new Maker(due).types(NONE, NONE, NONE, NONE, NONE, NONE)
                .plain(0, 1, "LOAD 0; POP; ".repeat(9) + "LOAD 0; RETURN").guard(0, 19, 20, 19).guard(0, 19, 20, 19)
                .guard(0, 19, 20, 19);
        for (int method = 1; method < 10; method++) {
            maker.plain(0, 1, END);
        }
        ClosedWorld x = maker.closed();
        due.runs(x, 7, 0, 7);
        due.is("a seventh class", x.type(NONE, 0), NONE);
        due.is("an eleventh method", x.method(1, 0, 0), NONE);
        due.is("a twenty-first instruction", x.code(0, 0, 0), NONE);
        due.is("a fourth guard", x.guard(0, 0, 1, 19), false);
        due.is("the run stays", x.steps(), 20);
        due.runs(x, 8, 0, 8);
        due.is("no class came", x.begun(6), NONE);
        due.is("class 1 answers nothing", x.answer(1, 0), NONE);
        due.is("no guard came", x.typeAt(0, 19, 5), NONE);
    }

    private static boolean refuse(ClosedWorld x, int which) {
        return switch (which) {
            case 0 -> x.type(2, 0) == NONE;
            case 1 -> x.type(-2, 0) == NONE;
            case 2 -> x.type(NONE, -1) == NONE;
            case 3 -> x.type(1, 4) == NONE;
            case 4 -> x.method(2, NONE, 0) == NONE;
            case 5 -> x.method(-1, NONE, 0) == NONE;
            case 6 -> x.method(0, 4, 0) == NONE;
            case 7 -> x.method(0, NONE, 3) == NONE;
            case 8 -> x.method(1, 2, 0) == NONE;
            case 9 -> !x.initialiser(2, 2);
            case 10 -> !x.initialiser(0, 0);
            case 11 -> !x.initialiser(1, 1);
            case 12 -> !x.initialiser(1, 3);
            case 13 -> x.code(3, 0, 0) == NONE;
            case 14 -> x.code(0, 23, 0) == NONE;
            case 15 -> x.code(0, 11, 2) == NONE;
            case 16 -> x.code(0, 16, 1) == NONE;
            case 17 -> x.code(0, 12, 6) == NONE;
            case 18 -> !x.guard(3, 0, 1, 0);
            case 19 -> !x.guard(0, 1, 1, 0);
            case 20 -> !x.guard(0, 0, 21, 0);
            case 21 -> !x.guard(0, 0, 1, 20);
            case 22 -> x.run(9, -1) == NONE;
            default -> x.run(9, 2001) == NONE;
        };
    }

    private void changed() {
        due.says("Whenever the program is changed (by a call that is not refused, also to what it is), it is not "
                + "closed, and there is no run.");
        for (int which = 0; which < 6; which++) {
            ClosedWorld x = closedAndRun().closed();
            due.runs(x, 7, 0, 7);
            due.is("change " + which, change(x, which), true);
            due.is("live", x.live(0), false);
            due.is("targets", x.targets(0, 2), NONE);
            due.is("typeAt", x.typeAt(0, 0, 0), NONE);
            due.is("result", x.result(), 0);
            due.is("steps", x.steps(), NONE);
            due.is("prints", x.prints(), NONE);
            due.is("printed", x.printed(0), 0);
            due.is("begun", x.begun(0), NONE);
            due.is("objects", x.objects(), NONE);
            due.is("kept", x.kept(1), 0);
            due.is("run", x.run(7, 2000), NONE);
            due.is("close", x.close(), which == 1 ? 3 : NONE);
            due.is("no run though it is closed", x.steps(), NONE);
            due.is("no result though it is closed", x.result(), 0);
            due.is("nothing kept though it is closed", x.kept(1), 0);
        }
    }

    /** The last one sets the initialiser to what it is. */
    private static boolean change(ClosedWorld x, int which) {
        return switch (which) {
            case 0 -> x.type(NONE, 0) == 2;
            case 1 -> x.method(0, NONE, 0) == 3;
            case 2 -> x.initialiser(0, 2);
            case 3 -> x.code(0, 22, 0) == 6;
            case 4 -> x.guard(0, 5, 6, 5);
            default -> x.initialiser(1, 2);
        };
    }

    private void constants() {
        due.says("The constants: `NUMBER = 9`, `UNSET = 8`: The type NUMBER, and UNSET.");
        due.is("NUMBER", ClosedWorld.NUMBER, 9);
        due.is("UNSET", ClosedWorld.UNSET, 8);
        due.is("NONE", NONE, -1);
        ClosedWorld x = new Maker(due).types(NONE).plain(0, 1, END).closed();
        due.is("a number", x.typeAt(0, 0, 0), 9);
        due.is("nothing yet", x.typeAt(0, 0, 1), 8);
        due.says("`NULLED = -1`, `DIVIDE = -2`, `MISCAST = -3`, `MEMORY = -4`, `DEEP = -5`: What is thrown by "
                + "instructions.");
        due.is("NULLED", ClosedWorld.NULLED, -1);
        due.is("DIVIDE", ClosedWorld.DIVIDE, -2);
        due.is("MISCAST", ClosedWorld.MISCAST, -3);
        due.is("MEMORY", ClosedWorld.MEMORY, -4);
        due.is("DEEP", ClosedWorld.DEEP, -5);
        String[] texts = {"NULL 0; GET 0; RETURN", "PUSH 1; PUSH 0; DIV; RETURN", "NEW 0; CAST 1; ISA 1; RETURN",
            "NEW 0; POP; JUMP 0", "PUSH 1; CALL 0; RETURN"};
        for (int k = 0; k < texts.length; k++) {
            due.runs(new Maker(due).type(NONE, 1).type(NONE, 0).plain(0, 1, texts[k]).closed(), 0, 1, -1 - k);
        }
    }
}
