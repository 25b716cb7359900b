import java.util.ArrayList;
import java.util.List;
import java.util.Map;
import java.util.Random;
import java.util.TreeMap;

/** Asks the program and the model the same calls, of programs and of calls made by chance. */
public final class ModelTest {
    private static final int[] ODD = {
        -1, 0, 1, 2, 3, 4, 5, 6, 9, 10, 15, 16, 19, 20, 21, 22, 23, -2, Integer.MAX_VALUE, Integer.MIN_VALUE};
    private static final int MOST_CALLS = 512;
    /** Keeps the programs to spoil apart from the others. */
    private static final long SPOILING = 1L << 40;

    private final Due due = new Due();
    private final int[] ends = new int[4];
    private final Map<Integer, Integer> thrown = new TreeMap<>();
    private int closed;
    private int unsound;

    public static void main(String[] args) {
        ModelTest test = new ModelTest();
        int programs = args.length > 0 ? Integer.parseInt(args[0]) : 1500;
        for (int seed = 0; seed < programs; seed++) {
            test.writtenProgram(seed);
            test.spoiltProgram(seed);
            test.anyCalls(seed);
        }
        System.out.println(test.closed + " of " + programs + " programs closed, " + test.unsound
                + " were found unsound when spoilt; runs answered, threw, spent: "
                + test.ends[0] + ", " + test.ends[1] + ", " + test.ends[2] + "; thrown: " + test.thrown);
        test.due.end();
    }

    private int ask(int seed, ClosedWorld x, Model model, int[] call) {
        int want = Calls.ask(model, call);
        due.is("seed " + seed + ": " + Calls.told(call), Calls.ask(x, call), want);
        return want;
    }

    private void writtenProgram(int seed) {
        Random random = new Random(seed);
        List<int[]> program = new Writer(random).program();
        ClosedWorld x = new ClosedWorld();
        Model model = new Model();
        program.forEach(call -> ask(seed, x, model, call));
        int left = MOST_CALLS - program.size() - 1;
        if (ask(seed, x, model, Calls.call(Calls.CLOSE)) == ClosedWorld.NONE) {
            closed++;
        }
        List<int[]> questions = questionsOfCode();
        for (int k = 0; k < 100; k++) {
            ask(seed, x, model, questions.get(random.nextInt(questions.size())));
        }
        for (left -= 100; left >= 40; left -= 40) {
            oneRun(seed, random, x, model);
        }
    }

    /** A program with one or two instructions or guards that are not as they were written. */
    private void spoiltProgram(int seed) {
        Random random = new Random(SPOILING + seed);
        List<int[]> program = new Writer(random).program();
        for (int k = random.nextInt(2); k >= 0; k--) {
            spoil(random, program.get(random.nextInt(program.size())));
        }
        ClosedWorld x = new ClosedWorld();
        Model model = new Model();
        program.forEach(call -> ask(seed, x, model, call));
        int answer = ask(seed, x, model, Calls.call(Calls.CLOSE));
        if (answer != ClosedWorld.NONE) {
            unsound++;
        }
        List<int[]> questions = questionsOfCode();
        for (int k = 0; k < 100; k++) {
            ask(seed, x, model, questions.get(random.nextInt(questions.size())));
        }
        oneRun(seed, random, x, model);
    }

    private static void spoil(Random random, int[] call) {
        if (call[0] == Calls.GUARD) {
            call[2 + random.nextInt(3)] = random.nextInt(20);
        } else if (call[0] == Calls.CODE && random.nextBoolean()) {
            call[2] = random.nextInt(23);
        } else if (call[0] == Calls.CODE) {
            call[3] = random.nextInt(6);
        }
    }

    private static List<int[]> questionsOfCode() {
        List<int[]> questions = new ArrayList<>();
        for (int method = 0; method < 10; method++) {
            questions.add(Calls.call(Calls.LIVE, method));
            for (int at = 0; at < 20; at++) {
                questions.add(Calls.call(Calls.TARGETS, method, at));
                questions.add(Calls.call(Calls.TARGETS, method, at));
                for (int place = 0; place < 8; place++) {
                    questions.add(Calls.call(Calls.TYPE_AT, method, at, place));
                }
            }
        }
        for (int type = 0; type < 6; type++) {
            for (int selector = 0; selector < 4; selector++) {
                for (int k = 0; k < 20; k++) {
                    questions.add(Calls.call(k % 2 == 0 ? Calls.ANSWER : Calls.SLOT, type, selector));
                }
            }
        }
        return questions;
    }

    private void oneRun(int seed, Random random, ClosedWorld x, Model model) {
        int fuel = random.nextInt(3) == 0 ? random.nextInt(60) : 2000;
        int end = ask(seed, x, model, Calls.call(Calls.RUN, random.nextInt(8) - 3, fuel));
        ends[end == -1 ? 3 : end]++;
        int result = ask(seed, x, model, Calls.call(Calls.RESULT));
        if (end == 1) {
            thrown.merge(result, 1, Integer::sum);
        }
        ask(seed, x, model, Calls.call(Calls.STEPS));
        ask(seed, x, model, Calls.call(Calls.PRINTS));
        ask(seed, x, model, Calls.call(Calls.OBJECTS));
        for (int k = 0; k < 17; k++) {
            ask(seed, x, model, Calls.call(Calls.PRINTED, k));
        }
        for (int type = 0; type < 7; type++) {
            ask(seed, x, model, Calls.call(Calls.BEGUN, type));
            ask(seed, x, model, Calls.call(Calls.KEPT, type));
        }
    }

    /** Calls with any arguments, wrong ones too, in any order, between those of a program. */
    private void anyCalls(int seed) {
        Random random = new Random(-1 - seed);
        List<int[]> program = new Writer(random).program();
        ClosedWorld x = new ClosedWorld();
        Model model = new Model();
        int next = 0;
        for (int k = 0; k < MOST_CALLS; k++) {
            boolean written = next < program.size() && random.nextInt(8) != 0;
            int[] call = written ? program.get(next++) : anyCall(random);
            ask(seed, x, model, call);
        }
    }

    private static int[] anyCall(Random random) {
        int[] call = new int[5];
        call[0] = random.nextInt(6) == 0 ? Calls.CLOSE : random.nextInt(Calls.COUNT);
        for (int k = 1; k < call.length; k++) {
            call[k] = random.nextInt(3) == 0 ? ODD[random.nextInt(ODD.length)] : random.nextInt(6) - 1;
        }
        return call;
    }
}
