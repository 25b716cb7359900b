/** Promises 9 and 10: answer and slot. */
public final class TableTest {
    private static final int NONE = ClosedWorld.NONE;
    private static final Due DUE = new Due();

    public static void main(String[] args) {
        tables();
        laterMethods();
        wrongInputs();
        DUE.end();
    }

    private static void rows(ClosedWorld x, int type, int[] answers, int[] slots) {
        for (int selector = 0; selector < 4; selector++) {
            String of = " of class " + type + ", selector " + selector;
            DUE.is("answer" + of, x.answer(type, selector), answers[selector]);
            DUE.is("slot" + of, x.slot(type, selector), slots[selector]);
        }
    }

    private static void tables() {
        ClosedWorld x = new ClosedWorld();
        x.type(NONE, 0);
        x.type(0, 0);
        x.type(0, 0);
        x.type(1, 0);
        x.type(NONE, 0);
        DUE.is("3 of class 0", x.method(0, 3, 0), 0);
        DUE.is("plain", x.method(0, NONE, 0), 1);
        DUE.is("1 of class 0", x.method(0, 1, 0), 2);
        DUE.is("2 of class 3", x.method(3, 2, 0), 3);
        DUE.is("0 of class 1", x.method(1, 0, 0), 4);
        DUE.is("1 of class 1", x.method(1, 1, 0), 5);
        DUE.is("3 of class 3", x.method(3, 3, 0), 6);
        DUE.is("2 of class 2", x.method(2, 2, 0), 7);
        rows(x, 0, new int[] {NONE, 2, NONE, 0}, new int[] {NONE, 1, NONE, 0});
        rows(x, 1, new int[] {4, 5, NONE, 0}, new int[] {2, 1, NONE, 0});
        rows(x, 2, new int[] {NONE, 2, 7, 0}, new int[] {NONE, 1, 2, 0});
        rows(x, 3, new int[] {4, 5, 3, 6}, new int[] {2, 1, 3, 0});
        rows(x, 4, new int[] {NONE, NONE, NONE, NONE}, new int[] {NONE, NONE, NONE, NONE});
    }

    /** The table of a class changes with what its parent gets after it. */
    private static void laterMethods() {
        ClosedWorld x = new ClosedWorld();
        x.type(NONE, 0);
        x.type(0, 0);
        x.method(1, 2, 0);
        x.method(1, 0, 0);
        rows(x, 1, new int[] {1, NONE, 0, NONE}, new int[] {1, NONE, 0, NONE});
        x.method(0, 0, 0);
        rows(x, 1, new int[] {1, NONE, 0, NONE}, new int[] {0, NONE, 1, NONE});
        rows(x, 0, new int[] {2, NONE, NONE, NONE}, new int[] {0, NONE, NONE, NONE});
        x.method(0, 1, 0);
        rows(x, 1, new int[] {1, 3, 0, NONE}, new int[] {0, 1, 2, NONE});
    }

    private static void wrongInputs() {
        ClosedWorld x = new ClosedWorld();
        x.type(NONE, 0);
        x.method(0, NONE, 1);
        x.method(0, 0, 1);
        for (int wrong : new int[] {-1, -2, 4, 31, 32, Integer.MAX_VALUE, Integer.MIN_VALUE}) {
            DUE.is("answer: selector " + wrong, x.answer(0, wrong), NONE);
            DUE.is("slot: selector " + wrong, x.slot(0, wrong), NONE);
            DUE.is("answer: class " + wrong, x.answer(wrong, 0), NONE);
            DUE.is("slot: class " + wrong, x.slot(wrong, 0), NONE);
        }
        DUE.is("answer: class 1 is not there", x.answer(1, 0), NONE);
        DUE.is("slot: class 1 is not there", x.slot(1, 0), NONE);
        DUE.is("answer: there", x.answer(0, 0), 1);
        DUE.is("slot: there", x.slot(0, 0), 0);
    }
}
