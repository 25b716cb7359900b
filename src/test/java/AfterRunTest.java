/** Promises 14 to 20: result, steps, prints, printed, begun, objects, kept. */
public final class AfterRunTest {
    private static final int NONE = ClosedWorld.NONE;
    private static final int[] WRONG = {-1, -2, 6, 31, 32, Integer.MAX_VALUE, Integer.MIN_VALUE};
    private static final Due DUE = new Due();

    public static void main(String[] args) {
        withoutRun();
        results();
        steps();
        prints();
        printsOfAnEarlierRun();
        begun();
        objects();
        kept();
        aRunStaysWhenClosedAgain();
        DUE.end();
    }

    private static void withoutRun() {
        ClosedWorld x = DUE.world("PUSH 5; RETURN");
        for (int round = 0; round < 2; round++) {
            DUE.is("no run: result", x.result(), 0);
            DUE.is("no run: steps", x.steps(), NONE);
            DUE.is("no run: prints", x.prints(), NONE);
            DUE.is("no run: printed", x.printed(0), 0);
            DUE.is("no run: begun", x.begun(0), NONE);
            DUE.is("no run: objects", x.objects(), NONE);
            DUE.is("no run: kept", x.kept(0), 0);
            DUE.is("no run: close", x.close(), NONE);
        }
    }

    private static void results() {
        ClosedWorld x = DUE.world("LOAD 0; LE 4; LOAD 0; RETURN; LOAD 0; THROW");
        DUE.is("result: close", x.close(), NONE);
        DUE.is("result: answered", x.run(12, 9), 0);
        DUE.is("result: what was answered", x.result(), 12);
        DUE.is("result: threw", x.run(-12, 9), 1);
        DUE.is("result: what was thrown", x.result(), -12);
        DUE.is("result: spent", x.run(-12, 3), 2);
        DUE.is("result: 0", x.result(), 0);
        DUE.is("result: refused", x.run(-12, 3000), NONE);
        DUE.is("result: still 0", x.result(), 0);

        ClosedWorld called = DUE.world("PUSH 4; CALL 0; RETURN");
        DUE.is("result: close", called.close(), NONE);
        DUE.is("result: spent in a call", called.run(1, 9), 2);
        DUE.is("result: 0 after that", called.result(), 0);
    }

    private static void steps() {
        ClosedWorld x = DUE.world("LOAD 0; PUSH 0; DIV; RETURN; POP; NULL 0; POP; PUSH 1; RETURN");
        x.guard(0, 2, 3, 4);
        DUE.is("steps: close", x.close(), NONE);
        DUE.is("steps: run", x.run(1, 2000), 0);
        DUE.is("steps: what throws counts", x.steps(), 8);
        DUE.is("steps: run", x.run(1, 0), 2);
        DUE.is("steps: none", x.steps(), 0);
        DUE.is("steps: run", x.run(1, 7), 2);
        DUE.is("steps: all but one", x.steps(), 7);
    }

    /** Prints its argument, and goes down to 1. */
    private static ClosedWorld countdown() {
        ClosedWorld x = DUE.world("LOAD 0; LE 8; LOAD 0; PRINT; LOAD 0; PUSH 1; SUB; JUMP 10; PUSH 0; RETURN; STORE 0; "
                + "JUMP 0");
        DUE.is("countdown: close", x.close(), NONE);
        return x;
    }

    private static void prints() {
        ClosedWorld x = countdown();
        DUE.is("prints: run", x.run(20, 2000), 0);
        DUE.is("prints: also those behind the sixteenth", x.prints(), 20);
        for (int k = 0; k < 20; k++) {
            DUE.is("printed " + k, x.printed(k), k < 16 ? 20 - k : 0);
        }
        for (int wrong : new int[] {-1, Integer.MIN_VALUE, Integer.MAX_VALUE}) {
            DUE.is("printed " + wrong, x.printed(wrong), 0);
        }
    }

    private static void printsOfAnEarlierRun() {
        ClosedWorld x = countdown();
        DUE.is("earlier: run", x.run(20, 2000), 0);
        DUE.is("earlier: run again", x.run(2, 2000), 0);
        DUE.is("earlier: prints", x.prints(), 2);
        DUE.is("earlier: printed 0", x.printed(0), 2);
        DUE.is("earlier: printed 1", x.printed(1), 1);
        DUE.is("earlier: printed 2", x.printed(2), 0);
        DUE.is("earlier: printed 15", x.printed(15), 0);
    }

    private static void begun() {
        ClosedWorld x = new ClosedWorld();
        x.type(NONE, 0);
        x.type(NONE, 0);
        x.type(1, 0);
        x.type(NONE, 0);
        x.method(3, NONE, 1);
        DUE.write(x, 0, "LOAD 0; LE 4; STATIC 0; POP; STATIC 2; RETURN");
        DUE.is("begun: close", x.close(), NONE);
        DUE.is("begun: run", x.run(1, 100), 0);
        int[] orders = {1, 2, 3, 0};
        for (int type = 0; type < 4; type++) {
            DUE.is("begun: class " + type, x.begun(type), orders[type]);
        }
        DUE.is("begun: run without class 0", x.run(0, 100), 0);
        orders = new int[] {NONE, 1, 2, 0};
        for (int type = 0; type < 4; type++) {
            DUE.is("begun: class " + type + " now", x.begun(type), orders[type]);
        }
        DUE.is("begun: class 4 is not there", x.begun(4), NONE);
        for (int wrong : WRONG) {
            DUE.is("begun: class " + wrong, x.begun(wrong), NONE);
        }
    }

    private static void objects() {
        ClosedWorld x = DUE.world("LOAD 0; LE 8; NEW 0; POP; LOAD 0; PUSH 1; SUB; JUMP 10; PUSH 0; RETURN; STORE 0; JUMP 0");
        DUE.is("objects: close", x.close(), NONE);
        for (int count = 0; count <= 18; count++) {
            DUE.is("objects: run " + count, x.run(count, 2000), count > 16 ? 1 : 0);
            DUE.is("objects: " + count, x.objects(), Math.min(count, 16));
        }
    }

    private static void kept() {
        ClosedWorld x = new ClosedWorld();
        x.type(NONE, 0);
        x.type(0, 0);
        x.method(0, NONE, 1);
        DUE.write(x, 0, "LOAD 0; SET 0; PUSH 4; SET 1; LOAD 0; THROW");
        DUE.is("kept: close", x.close(), NONE);
        DUE.is("kept: run", x.run(7, 100), 1);
        DUE.is("kept: each class has its own", x.kept(0), 7);
        DUE.is("kept: also one below", x.kept(1), 4);
        DUE.is("kept: run", x.run(7, 3), 2);
        DUE.is("kept: as far as the fuel went", x.kept(0), 7);
        DUE.is("kept: 0 in a new run", x.kept(1), 0);
        DUE.is("kept: class 2 is not there", x.kept(2), 0);
        for (int wrong : WRONG) {
            DUE.is("kept: class " + wrong, x.kept(wrong), 0);
        }
    }

    private static void aRunStaysWhenClosedAgain() {
        ClosedWorld x = countdown();
        DUE.is("stays: run", x.run(3, 2000), 0);
        int steps = x.steps();
        DUE.is("stays: close", x.close(), NONE);
        DUE.is("stays: steps", x.steps(), steps);
        DUE.is("stays: prints", x.prints(), 3);
        DUE.is("stays: printed", x.printed(0), 3);
        DUE.is("stays: begun", x.begun(0), 0);
    }
}
