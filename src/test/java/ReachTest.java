/** Promises 11 and 12: live and targets. */
public final class ReachTest {
    private static final int NONE = ClosedWorld.NONE;
    private static final Due DUE = new Due();

    public static void main(String[] args) {
        callsAndInitialisers();
        touchingOps();
        initialisersDoNotTouchTheirClass();
        sends();
        sendsGrow();
        unreachedCode();
        callsBackwards();
        madeBackwards();
        whatIsNotLiveMakesNothing();
        closedAnew();
        wrongInputs();
        DUE.end();
    }

    private static void lives(ClosedWorld x, String what, int... lives) {
        for (int method = 0; method < lives.length; method++) {
            DUE.is(what + ": live " + method, x.live(method), lives[method] == 1);
        }
    }

    /** Classes 0, 1 of 0 and 2 alone; methods 1, 2, 3 are their initialisers; 4 is plain, of class 1. */
    private static ClosedWorld withInitialisers(int start, String text) {
        ClosedWorld x = new ClosedWorld();
        x.type(NONE, 0);
        x.type(0, 0);
        x.type(NONE, 0);
        x.method(start, NONE, 1);
        x.method(2, NONE, 0);
        x.method(2, NONE, 0);
        x.method(2, NONE, 0);
        x.method(1, NONE, 0);
        for (int method = 1; method < 5; method++) {
            DUE.write(x, method, "PUSH 1; RETURN");
        }
        x.initialiser(0, 1);
        x.initialiser(1, 2);
        x.initialiser(2, 3);
        DUE.write(x, 0, text);
        DUE.is("live: not closed", x.live(0), false);
        DUE.is("live: close", x.close(), NONE);
        return x;
    }

    private static void callsAndInitialisers() {
        lives(withInitialisers(0, "PUSH 1; RETURN"), "class 0", 1, 1, 0, 0, 0);
        lives(withInitialisers(1, "PUSH 1; RETURN"), "class 1 and its parent", 1, 1, 1, 0, 0);
        lives(withInitialisers(2, "PUSH 1; RETURN"), "class 2", 1, 0, 0, 1, 0);
        lives(withInitialisers(2, "CALL 4; RETURN"), "call", 1, 1, 1, 1, 1);
        lives(withInitialisers(0, "CALL 1; RETURN"), "call of an initialiser", 1, 1, 0, 1, 0);
    }

    private static void touchingOps() {
        lives(withInitialisers(2, "NEW 1; POP; PUSH 1; RETURN"), "NEW", 1, 1, 1, 1, 0);
        lives(withInitialisers(2, "STATIC 1; RETURN"), "STATIC", 1, 1, 1, 1, 0);
        lives(withInitialisers(2, "PUSH 1; SET 0; PUSH 1; RETURN"), "SET", 1, 1, 0, 1, 0);
        lives(withInitialisers(2, "NULL 1; CAST 0; ISA 1; RETURN"), "NULL, CAST, ISA", 1, 0, 0, 1, 0);
    }

    private static void initialisersDoNotTouchTheirClass() {
        ClosedWorld x = new ClosedWorld();
        x.type(NONE, 0);
        x.type(NONE, 0);
        x.method(0, NONE, 1);
        x.method(1, NONE, 0);
        x.method(1, NONE, 0);
        x.initialiser(0, 1);
        x.initialiser(1, 2);
        for (int method = 0; method < 3; method++) {
            DUE.write(x, method, "PUSH 1; RETURN");
        }
        DUE.is("not touched: close", x.close(), NONE);
        lives(x, "not touched", 1, 1, 0);
        DUE.is("not touched: run", x.run(0, 100), 0);
        DUE.is("not touched: not begun either", x.begun(1), NONE);
        DUE.is("not touched: both ran", x.steps(), 4);
    }

    /** Classes 0, 1 of 0, 2 of 0, 3 of 1; selector 0 is answered by methods 1 of 0, 2 of 1 and 3 of 2. */
    private static ClosedWorld family(String text) {
        ClosedWorld x = new ClosedWorld();
        x.type(NONE, 0);
        x.type(0, 0);
        x.type(0, 0);
        x.type(1, 0);
        x.method(0, NONE, 1);
        x.method(0, 0, 0);
        x.method(1, 0, 0);
        x.method(2, 0, 0);
        for (int method = 1; method < 4; method++) {
            DUE.write(x, method, "LOAD 1; RETURN");
        }
        DUE.write(x, 0, text);
        DUE.is("family: targets when not closed", x.targets(0, 2), NONE);
        DUE.is("family: close", x.close(), NONE);
        return x;
    }

    private static void sends() {
        ClosedWorld none = family("NULL 0; PUSH 1; SEND 0; RETURN");
        DUE.is("targets: nothing is made", none.targets(0, 2), 0);
        lives(none, "nothing is made", 1, 0, 0, 0);

        ClosedWorld one = family("NEW 3; PUSH 1; SEND 0; RETURN");
        DUE.is("targets: of the parent", one.targets(0, 2), 1);
        lives(one, "of the parent", 1, 0, 1, 0);

        ClosedWorld same = family("NEW 3; POP; NEW 1; PUSH 1; SEND 0; RETURN");
        DUE.is("targets: two classes, one method", same.targets(0, 4), 1);

        ClosedWorld below = family("NEW 2; POP; NEW 0; POP; NEW 3; CAST 0; PUSH 1; SEND 0; RETURN");
        DUE.is("targets: all below class 0", below.targets(0, 7), 3);
        lives(below, "all below class 0", 1, 1, 1, 1);

        ClosedWorld beside = family("NEW 2; POP; NEW 0; POP; NEW 3; PUSH 1; SEND 0; RETURN");
        DUE.is("targets: only those of the receiver's class", beside.targets(0, 6), 1);
        lives(beside, "only those of the receiver's class", 1, 0, 1, 0);
    }

    /** What a method that becomes live makes counts for the SENDs before it too. */
    private static void sendsGrow() {
        ClosedWorld x = new ClosedWorld();
        x.type(NONE, 0);
        x.type(0, 0);
        x.type(0, 0);
        x.method(0, NONE, 1);
        x.method(0, 1, 0);
        x.method(1, 1, 0);
        x.method(2, 1, 0);
        DUE.write(x, 0, "NEW 0; PUSH 1; SEND 1; RETURN");
        DUE.write(x, 1, "NEW 1; POP; PUSH 1; RETURN");
        DUE.write(x, 2, "LOAD 0; PUSH 1; SEND 1; RETURN");
        DUE.write(x, 3, "LOAD 0; PUSH 1; SEND 1; RETURN");
        DUE.is("grow: close", x.close(), NONE);
        lives(x, "grow", 1, 1, 1, 0);
        DUE.is("grow: targets of the first", x.targets(0, 2), 2);
        DUE.is("grow: targets in what became live", x.targets(2, 2), 1);
        DUE.is("grow: targets in what is not live", x.targets(3, 2), NONE);
    }

    private static void unreachedCode() {
        ClosedWorld x = family("JUMP 4; NEW 2; PUSH 1; SEND 0; NEW 1; PUSH 1; SEND 0; RETURN; NEW 0; PUSH 1; SEND 0; RETURN");
        lives(x, "unreached", 1, 0, 1, 0);
        DUE.is("unreached: targets", x.targets(0, 3), NONE);
        DUE.is("unreached: targets behind", x.targets(0, 10), NONE);
        DUE.is("unreached: what is reached", x.targets(0, 6), 1);
    }

    /** Each method is called by one of a higher number, so that one round after the other finds it. */
    private static void callsBackwards() {
        ClosedWorld x = new ClosedWorld();
        x.type(NONE, 0);
        x.method(0, NONE, 1);
        for (int method = 1; method < 10; method++) {
            x.method(0, NONE, 0);
        }
        DUE.write(x, 0, "CALL 9; RETURN");
        DUE.write(x, 1, "PUSH 1; RETURN");
        DUE.write(x, 2, "PUSH 1; RETURN");
        for (int method = 3; method < 10; method++) {
            DUE.write(x, method, "CALL " + (method - 1) + "; RETURN");
        }
        DUE.is("backwards: close", x.close(), NONE);
        lives(x, "backwards", 1, 0, 1, 1, 1, 1, 1, 1, 1, 1);
    }

    /** A class that is made late, by a method that is live already, makes a further target live. */
    private static void madeBackwards() {
        ClosedWorld x = new ClosedWorld();
        x.type(NONE, 0);
        x.type(0, 0);
        x.type(0, 0);
        x.type(0, 0);
        x.method(0, NONE, 1);
        x.method(3, 0, 0);
        x.method(2, 0, 0);
        x.method(1, 0, 0);
        x.method(0, 0, 0);
        x.method(0, NONE, 0);
        DUE.write(x, 0, "NULL 0; PUSH 1; SEND 0; CALL 5; ADD; RETURN");
        DUE.write(x, 1, "PUSH 1; RETURN");
        DUE.write(x, 2, "NEW 3; POP; PUSH 1; RETURN");
        DUE.write(x, 3, "NEW 2; POP; PUSH 1; RETURN");
        DUE.write(x, 4, "NEW 1; POP; PUSH 1; RETURN");
        DUE.write(x, 5, "NEW 0; POP; PUSH 1; RETURN");
        DUE.is("made backwards: close", x.close(), NONE);
        lives(x, "made backwards", 1, 1, 1, 1, 1, 1);
        DUE.is("made backwards: targets", x.targets(0, 2), 4);
    }

    private static void whatIsNotLiveMakesNothing() {
        ClosedWorld x = new ClosedWorld();
        x.type(NONE, 0);
        x.type(0, 0);
        x.method(0, NONE, 1);
        x.method(0, 0, 0);
        x.method(0, NONE, 0);
        x.method(0, NONE, 0);
        DUE.write(x, 0, "NULL 0; PUSH 1; SEND 0; RETURN");
        DUE.write(x, 1, "PUSH 1; RETURN");
        DUE.write(x, 2, "NEW 1; POP; CALL 3; RETURN");
        DUE.write(x, 3, "PUSH 1; RETURN");
        DUE.is("not live: close", x.close(), NONE);
        lives(x, "not live", 1, 0, 0, 0);
        DUE.is("not live: targets", x.targets(0, 2), 0);
    }

    /** What was live in a program that was closed before does not stay so. */
    private static void closedAnew() {
        ClosedWorld x = new ClosedWorld();
        x.type(NONE, 0);
        x.method(0, NONE, 1);
        x.method(0, NONE, 0);
        x.method(0, NONE, 0);
        x.method(0, 0, 0);
        DUE.write(x, 0, "NULL 0; PUSH 1; SEND 0; RETURN");
        DUE.write(x, 1, "NEW 0; POP; PUSH 1; RETURN");
        DUE.write(x, 2, "PUSH 1; RETURN");
        DUE.write(x, 3, "PUSH 1; RETURN");
        x.initialiser(0, 1);
        DUE.is("anew: close", x.close(), NONE);
        lives(x, "anew: first", 1, 1, 0, 1);
        DUE.is("anew: targets", x.targets(0, 2), 1);
        x.initialiser(0, 2);
        DUE.is("anew: open", x.live(0), false);
        DUE.is("anew: close again", x.close(), NONE);
        lives(x, "anew: second", 1, 0, 1, 0);
        DUE.is("anew: targets now", x.targets(0, 2), 0);
    }

    private static void wrongInputs() {
        ClosedWorld x = family("NEW 3; PUSH 1; SEND 0; RETURN");
        for (int wrong : new int[] {-1, 4, 9, 10, 31, 32, Integer.MAX_VALUE, Integer.MIN_VALUE}) {
            DUE.is("wrong: live " + wrong, x.live(wrong), false);
            DUE.is("wrong: targets of method " + wrong, x.targets(wrong, 2), NONE);
            DUE.is("wrong: targets at " + wrong, x.targets(0, wrong), NONE);
        }
        DUE.is("wrong: no SEND", x.targets(0, 1), NONE);
        DUE.is("wrong: instruction 20", x.targets(0, 20), NONE);
        DUE.is("right", x.targets(0, 2), 1);
    }
}
