/** The sentences of the promises 13 to 20: run, and what is left of a run. */
final class RunSentences {
    private static final int NONE = ClosedWorld.NONE;
    private static final int LOWEST = Integer.MIN_VALUE;
    private static final int HIGHEST = Integer.MAX_VALUE;
    private static final String END = "PUSH 1; RETURN";
    /** Prints its argument and each number below it down to 1, and answers 0. */
    private static final String COUNTDOWN = "LOAD 0; LE 9; LOAD 0; PRINT; LOAD 0; PUSH 1; SUB; STORE 0; JUMP 0; "
            + "PUSH 0; RETURN";

    private final Due due;

    RunSentences(Due due) {
        this.due = due;
    }

    void ask() {
        inPlaceOfAnEarlierRun();
        nothingAtFirst();
        triggersThenRuns();
        steps();
        endsAtOnce();
        ends();
        refused();
        result();
        stepsOfTheRun();
        prints();
        printed();
        begun();
        objects();
        kept();
    }

    private ClosedWorld world(String text) {
        return new Maker(due).types(NONE).plain(0, 1, text).closed();
    }

    private void inPlaceOfAnEarlierRun() {
        due.says("`int run(int argument, int fuel)`: Runs a closed program, in place of an earlier run (which stays "
                + "when this is refused):");
        ClosedWorld x = world(COUNTDOWN);
        due.runs(x, 3, 0, 0);
        due.is("prints", x.prints(), 3);
        due.is("refused", x.run(9, 2001), NONE);
        due.is("refused", x.run(9, -1), NONE);
        due.is("stays", x.prints(), 3);
        due.is("stays", x.printed(0), 3);
        due.is("stays", x.steps(), 3 * 9 + 4);
        due.runs(x, 1, 0, 0);
        due.is("in its place", x.prints(), 1);
        due.is("in its place", x.steps(), 9 + 4);
        due.is("spent", x.run(5, 0), 2);
        due.is("in its place", x.steps(), 0);
        due.is("in its place", x.prints(), 0);
    }

    private void nothingAtFirst() {
        due.says("no class is begun, statics are 0, nothing is printed, no objects;");
        String text = "LOAD 0; LE 12; PUSH 8; SET 1; PUSH 9; SET 0; PUSH 7; PRINT; NEW 1; ISA 1; PRINT; JUMP 15; "
                + "STATIC 0; RETURN; RETURN; STATIC 1; RETURN";
        ClosedWorld x = new Maker(due).types(NONE, NONE).plain(0, 1, text).plain(0, 0, "PUSH 4; PRINT; PUSH 0; RETURN")
                .initialiser(1, 1).closed();
        for (int round = 0; round < 2; round++) {
            due.runs(x, 1, 0, 8);
            due.is("prints", x.prints(), 3);
            due.is("its initialiser ran anew", x.printed(0), 4);
            due.is("objects", x.objects(), 1);
            due.is("begun", x.begun(1), 1);
            due.runs(x, 0, 0, 0);
            due.is("prints", x.prints(), 0);
            due.is("printed", x.printed(0), 0);
            due.is("objects", x.objects(), 0);
            due.is("begun", x.begun(1), NONE);
            due.is("kept", x.kept(1), 0);
            due.is("kept", x.kept(0), 0);
        }
    }

    private void triggersThenRuns() {
        due.says("the class of method 0 is triggered, then method 0 runs with the argument.");
        ClosedWorld x = new Maker(due).types(NONE, 0, 1).plain(2, 1, "LOAD 0; PRINT; STATIC 1; RETURN")
                .plain(0, 0, "PUSH 91; PRINT; PUSH 0; RETURN")
                .plain(0, 0, "PUSH 92; PRINT; PUSH 6; SET 1; PUSH 0; RETURN").initialiser(0, 1).initialiser(1, 2)
                .closed();
        for (int argument : new int[] {0, 1, -1, LOWEST, HIGHEST}) {
            due.runs(x, argument, 0, 6);
            due.is("first", x.printed(0), 91);
            due.is("then", x.printed(1), 92);
            due.is("then method 0", x.printed(2), argument);
            due.is("steps", x.steps(), 4 + 6 + 4);
            for (int type = 0; type < 3; type++) {
                due.is("begun " + type, x.begun(type), type);
            }
        }
        for (int fuel = 0; fuel < 10; fuel++) {
            due.is("cut short in triggering, fuel " + fuel, x.run(100 + fuel, fuel), 2);
        }
        due.runs(x, 55, 0, 6);
        due.is("its own argument", x.printed(2), 55);
    }

    private void steps() {
        due.says("Every instruction counts as one step when it begins (one that throws, too; "
                + "one that triggers initialisers still once);");
        ClosedWorld thrown = world("LOAD 0; THROW");
        due.runs(thrown, 3, 1, 3);
        due.is("one that throws", thrown.steps(), 2);
        ClosedWorld handled = new Maker(due).types(NONE).plain(0, 1, "LOAD 0; PUSH 0; DIV; RETURN; RETURN")
                .guard(0, 2, 3, 4).closed();
        due.runs(handled, 3, 0, -2);
        due.is("one that throws and its handler", handled.steps(), 4);
        ClosedWorld begun = new Maker(due).types(NONE, NONE, 1).plain(0, 1, "STATIC 2; RETURN").plain(0, 0, END)
                .plain(0, 0, "PUSH 1; POP; PUSH 1; RETURN").initialiser(1, 1).initialiser(2, 2).closed();
        due.runs(begun, 0, 0, 0);
        due.is("one that triggers two initialisers", begun.steps(), 1 + 2 + 4 + 1);
        ClosedWorld called = new Maker(due).types(NONE).plain(0, 1, "CALL 1; RETURN")
                .plain(0, 0, "PUSH 1; THROW; RETURN").guard(1, 1, 2, 2).closed();
        due.runs(called, 0, 0, 1);
        due.is("one that runs a method", called.steps(), 1 + 3 + 1);
    }

    private void endsAtOnce() {
        due.says("when fuel steps were counted and another one is to begin, the run ends at once.");
        ClosedWorld x = new Maker(due).types(NONE, NONE).plain(0, 1, "LOAD 0; PRINT; STATIC 1; RETURN; RETURN")
                .plain(0, 0, "PUSH 4; SET 1; PUSH 0; RETURN").initialiser(1, 1).guard(0, 0, 4, 4).guard(1, 0, 4, 3)
                .closed();
        for (int fuel = 0; fuel <= 9; fuel++) {
            due.is("fuel " + fuel, x.run(6, fuel), fuel < 8 ? 2 : 0);
            due.is("steps with " + fuel, x.steps(), Math.min(fuel, 8));
            due.is("prints with " + fuel, x.prints(), fuel < 2 ? 0 : 1);
            due.is("class 1 with " + fuel, x.begun(1), fuel < 3 ? NONE : 1);
            due.is("kept with " + fuel, x.kept(1), fuel < 5 ? 0 : 4);
            due.is("result with " + fuel, x.result(), fuel < 8 ? 0 : 4);
        }
        ClosedWorld first = new Maker(due).types(NONE, 0).plain(1, 1, END).plain(0, 0, END).initialiser(0, 1)
                .initialiser(1, 1).closed();
        due.is("no fuel", first.run(0, 0), 2);
        due.is("class 0 is begun", first.begun(0), 0);
        due.is("class 1 is not", first.begun(1), NONE);
        due.is("fuel for one initialiser", first.run(0, 2), 2);
        due.is("class 1 is begun", first.begun(1), 1);
        ClosedWorld idle = world(END);
        due.is("no fuel and no initialiser", idle.run(0, 0), 2);
        due.is("its class is begun", idle.begun(0), 0);
        ClosedWorld endless = world("JUMP 0");
        due.is("the most fuel", endless.run(0, 2000), 2);
        due.is("the most steps", endless.steps(), 2000);
        ClosedWorld deep = new Maker(due).types(NONE).plain(0, 1, "LOAD 0; CALL 0; RETURN; RETURN").guard(0, 0, 3, 3)
                .closed();
        for (int fuel = 0; fuel < 20; fuel++) {
            due.is("below, fuel " + fuel, deep.run(0, fuel), 2);
            due.is("below, steps " + fuel, deep.steps(), fuel);
        }
    }

    private void ends() {
        due.says("Answers 0 when method 0 answered, 1 when something was thrown that was not handled (also in "
                + "triggering its class), 2 when the fuel was not enough.");
        ClosedWorld x = world("LOAD 0; LE 4; LOAD 0; RETURN; LOAD 0; THROW");
        due.is("answered", x.run(1, 4), 0);
        due.is("thrown", x.run(0, 4), 1);
        due.is("spent", x.run(1, 3), 2);
        due.is("spent in front of THROW", x.run(0, 3), 2);
        ClosedWorld start = new Maker(due).types(NONE).plain(0, 1, "PUSH 1; RETURN; RETURN")
                .plain(0, 0, "PUSH 9; THROW").initialiser(0, 1).guard(0, 0, 2, 2).closed();
        due.is("in triggering its class", start.run(0, 2), 1);
        due.is("result", start.result(), 9);
        due.is("spent in triggering its class", start.run(0, 1), 2);
        ClosedWorld handled = new Maker(due).types(NONE).plain(0, 1, "LOAD 0; THROW; RETURN").guard(0, 1, 2, 2)
                .closed();
        due.is("handled", handled.run(7, 3), 0);
        due.is("spent in the handler", handled.run(7, 2), 2);
    }

    private void refused() {
        due.says("NONE, refused, when it is not closed, or fuel is not 0 .. 2000.");
        ClosedWorld x = new Maker(due).types(NONE).plain(0, 1, "LOAD 0; RETURN").open();
        due.is("not closed", x.run(0, 10), NONE);
        due.is("no run by that", x.steps(), NONE);
        due.is("close", x.close(), NONE);
        for (int fuel : new int[] {-1, -2, 2001, 2002, LOWEST, HIGHEST}) {
            due.is("fuel " + fuel, x.run(0, fuel), NONE);
            due.is("no run by that", x.steps(), NONE);
        }
        due.is("fuel 0", x.run(0, 0), 2);
        due.is("fuel 2000", x.run(5, 2000), 0);
        for (int fuel : new int[] {-1, 2001, LOWEST, HIGHEST}) {
            due.is("fuel " + fuel, x.run(0, fuel), NONE);
            due.is("the run stays", x.result(), 5);
        }
        due.is("changed", x.code(0, 22, 0), 2);
        due.is("not closed any more", x.run(0, 10), NONE);
    }

    private void result() {
        due.says("`int result()`: What method 0 answered in the run, or what was thrown and not handled; "
                + "0 when the fuel was not enough, or there was no run.");
        ClosedWorld x = world("LOAD 0; LE 4; LOAD 0; RETURN; LOAD 0; THROW");
        due.is("no run", x.result(), 0);
        due.runs(x, HIGHEST, 0, HIGHEST);
        due.runs(x, LOWEST, 1, LOWEST);
        due.is("run", x.run(5, 3), 2);
        due.is("not enough", x.result(), 0);
        due.runs(x, 5, 0, 5);
        due.is("changed", x.type(NONE, 0), 1);
        due.is("no run any more", x.result(), 0);
        ClosedWorld handled = new Maker(due).types(NONE).plain(0, 1, "PUSH 9; THROW; JUMP 2").guard(0, 1, 2, 2)
                .closed();
        due.runs(handled, 0, 2, 0);
        ClosedWorld called = new Maker(due).types(NONE).plain(0, 1, "CALL 1; STORE 0; JUMP 2")
                .plain(0, 0, "PUSH 9; RETURN").closed();
        due.runs(called, 0, 2, 0);
    }

    private void stepsOfTheRun() {
        due.says("`int steps()`: How many steps the run took; NONE when there was no run.");
        ClosedWorld x = world(COUNTDOWN);
        due.is("no run", x.steps(), NONE);
        due.runs(x, 2, 0, 0);
        due.is("all", x.steps(), 22);
        due.is("run", x.run(2, 22), 0);
        due.is("just enough", x.steps(), 22);
        due.is("run", x.run(2, 21), 2);
        due.is("not enough", x.steps(), 21);
        due.is("run", x.run(2, 0), 2);
        due.is("none", x.steps(), 0);
        due.is("changed", x.type(NONE, 0), 1);
        due.is("no run any more", x.steps(), NONE);
    }

    private void prints() {
        due.says("`int prints()`: How many numbers the run printed (also those behind the sixteenth); "
                + "NONE when there was no run.");
        ClosedWorld x = world(COUNTDOWN);
        due.is("no run", x.prints(), NONE);
        for (int count : new int[] {0, 1, 15, 16, 17, 40}) {
            due.runs(x, count, 0, 0);
            due.is("prints", x.prints(), count);
        }
        ClosedWorld most = world("LOAD 0; PRINT; JUMP 0");
        due.runs(most, 0, 2, 0);
        due.is("as many as the fuel lets it", most.prints(), 667);
        due.is("changed", x.type(NONE, 0), 1);
        due.is("no run any more", x.prints(), NONE);
    }

    private void printed() {
        due.says("`int printed(int k)`: Number k (from 0, the first) that the run printed; "
                + "0 when there was none, or k is above 15.");
        ClosedWorld x = world(COUNTDOWN);
        due.is("no run", x.printed(0), 0);
        for (int count : new int[] {18, 16, 15, 1, 0}) {
            due.runs(x, count, 0, 0);
            for (int k = 0; k < 19; k++) {
                due.is(count + " printed, number " + k, x.printed(k), k < Math.min(count, 16) ? count - k : 0);
            }
        }
        due.runs(x, 18, 0, 0);
        for (int k : new int[] {-1, LOWEST, HIGHEST, 16, 17, 31, 32}) {
            due.is("number " + k, x.printed(k), 0);
        }
        due.is("number 15", x.printed(15), 3);
        due.is("changed", x.type(NONE, 0), 1);
        due.is("no run any more", x.printed(0), 0);
    }

    private void begun() {
        due.says("`int begun(int type)`: The how-manieth class (from 0) this one was in becoming begun in the run; "
                + "NONE when it did not, there is no such class, or there was no run.");
        ClosedWorld x = new Maker(due).types(NONE, NONE, 1, 2, NONE, NONE)
                .plain(5, 1, "LOAD 0; LE 6; STATIC 4; POP; STATIC 3; RETURN; STATIC 2; RETURN").closed();
        for (int type = 0; type < 6; type++) {
            due.is("no run", x.begun(type), NONE);
        }
        due.runs(x, 1, 0, 0);
        int[] wants = {NONE, 2, 3, 4, 1, 0};
        for (int type = 0; type < 6; type++) {
            due.is("class " + type, x.begun(type), wants[type]);
        }
        due.runs(x, 0, 0, 0);
        wants = new int[] {NONE, 1, 2, NONE, NONE, 0};
        for (int type = 0; type < 6; type++) {
            due.is("class " + type + " in the next run", x.begun(type), wants[type]);
        }
        for (int wrong : new int[] {-1, 6, 7, LOWEST, HIGHEST}) {
            due.is("class " + wrong, x.begun(wrong), NONE);
        }
        ClosedWorld few = world(END);
        due.runs(few, 0, 0, 1);
        due.is("class 0", few.begun(0), 0);
        due.is("class 1 is not there", few.begun(1), NONE);
        due.is("changed", few.type(NONE, 0), 1);
        due.is("no run any more", few.begun(0), NONE);
    }

    private void objects() {
        due.says("`int objects()`: How many objects the run made; NONE when there was no run.");
        ClosedWorld x = world("LOAD 0; LE 9; NEW 0; POP; LOAD 0; PUSH 1; SUB; STORE 0; JUMP 0; PUSH 0; RETURN");
        due.is("no run", x.objects(), NONE);
        for (int count : new int[] {0, 1, 15, 16, 17, 2}) {
            due.is("run", x.run(count, 2000), count > 16 ? 1 : 0);
            due.is("objects", x.objects(), Math.min(count, 16));
        }
        due.is("run", x.run(3, 4), 2);
        due.is("as far as the fuel went", x.objects(), 1);
        due.is("changed", x.type(NONE, 0), 1);
        due.is("no run any more", x.objects(), NONE);
    }

    private void kept() {
        due.says("`int kept(int type)`: The static number of a class at the end of the run; "
                + "0 when there is no such class, or there was no run.");
        ClosedWorld x = new Maker(due).types(NONE, 0)
                .plain(0, 1, "LOAD 0; SET 0; PUSH 4; SET 1; PUSH 9; SET 1; LOAD 0; THROW").closed();
        due.is("no run", x.kept(0), 0);
        due.runs(x, LOWEST, 1, LOWEST);
        due.is("class 0", x.kept(0), LOWEST);
        due.is("what was set last", x.kept(1), 9);
        due.is("run", x.run(8, 4), 2);
        due.is("as far as the fuel went", x.kept(1), 4);
        due.is("run", x.run(8, 3), 2);
        due.is("and no farther", x.kept(1), 0);
        due.is("class 0 still", x.kept(0), 8);
        for (int wrong : new int[] {-1, 2, 5, 6, LOWEST, HIGHEST}) {
            due.is("class " + wrong, x.kept(wrong), 0);
        }
        due.is("refused", x.initialiser(0, 0), false);
        due.is("refused, the run stays", x.kept(0), 8);
        due.is("changed", x.type(NONE, 0), 2);
        due.is("no run any more", x.kept(0), 0);
    }
}
