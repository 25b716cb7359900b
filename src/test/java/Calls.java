import java.util.Arrays;

/** A call of the face as numbers: which one, and its arguments; asked of the program or of the model. */
final class Calls {
    static final int TYPE = 0;
    static final int METHOD = 1;
    static final int INITIALISER = 2;
    static final int CODE = 3;
    static final int GUARD = 4;
    static final int CLOSE = 5;
    static final int TYPE_AT = 6;
    static final int ANSWER = 7;
    static final int SLOT = 8;
    static final int LIVE = 9;
    static final int TARGETS = 10;
    static final int RUN = 11;
    static final int RESULT = 12;
    static final int STEPS = 13;
    static final int PRINTS = 14;
    static final int PRINTED = 15;
    static final int BEGUN = 16;
    static final int OBJECTS = 17;
    static final int KEPT = 18;
    static final int COUNT = 19;
    private static final String[] NAMES = {
        "type", "method", "initialiser", "code", "guard", "close", "typeAt", "answer", "slot", "live",
        "targets", "run", "result", "steps", "prints", "printed", "begun", "objects", "kept"};
    private static final int[] ARGUMENTS = {2, 3, 2, 3, 4, 0, 3, 2, 2, 1, 2, 2, 0, 0, 0, 1, 1, 0, 1};

    private Calls() {
    }

    static int[] call(int which, int... arguments) {
        int[] call = new int[5];
        call[0] = which;
        System.arraycopy(arguments, 0, call, 1, arguments.length);
        return call;
    }

    static String told(int[] call) {
        return NAMES[call[0]] + Arrays.toString(Arrays.copyOfRange(call, 1, 1 + ARGUMENTS[call[0]]));
    }

    static int ask(ClosedWorld x, int[] c) {
        return switch (c[0]) {
            case TYPE -> x.type(c[1], c[2]);
            case METHOD -> x.method(c[1], c[2], c[3]);
            case INITIALISER -> x.initialiser(c[1], c[2]) ? 1 : 0;
            case CODE -> x.code(c[1], c[2], c[3]);
            case GUARD -> x.guard(c[1], c[2], c[3], c[4]) ? 1 : 0;
            case CLOSE -> x.close();
            case TYPE_AT -> x.typeAt(c[1], c[2], c[3]);
            case ANSWER -> x.answer(c[1], c[2]);
            case SLOT -> x.slot(c[1], c[2]);
            case LIVE -> x.live(c[1]) ? 1 : 0;
            case TARGETS -> x.targets(c[1], c[2]);
            case RUN -> x.run(c[1], c[2]);
            case RESULT -> x.result();
            case STEPS -> x.steps();
            case PRINTS -> x.prints();
            case PRINTED -> x.printed(c[1]);
            case BEGUN -> x.begun(c[1]);
            case OBJECTS -> x.objects();
            default -> x.kept(c[1]);
        };
    }

    static int ask(Model x, int[] c) {
        return switch (c[0]) {
            case TYPE -> x.type(c[1], c[2]);
            case METHOD -> x.method(c[1], c[2], c[3]);
            case INITIALISER -> x.initialiser(c[1], c[2]) ? 1 : 0;
            case CODE -> x.code(c[1], c[2], c[3]);
            case GUARD -> x.guard(c[1], c[2], c[3], c[4]) ? 1 : 0;
            case CLOSE -> x.close();
            case TYPE_AT -> x.typeAt(c[1], c[2], c[3]);
            case ANSWER -> x.answer(c[1], c[2]);
            case SLOT -> x.slot(c[1], c[2]);
            case LIVE -> x.live(c[1]) ? 1 : 0;
            case TARGETS -> x.targets(c[1], c[2]);
            case RUN -> x.run(c[1], c[2]);
            case RESULT -> x.result();
            case STEPS -> x.steps();
            case PRINTS -> x.prints();
            case PRINTED -> x.printed(c[1]);
            case BEGUN -> x.begun(c[1]);
            case OBJECTS -> x.objects();
            default -> x.kept(c[1]);
        };
    }
}
