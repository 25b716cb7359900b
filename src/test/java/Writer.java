import java.util.ArrayList;
import java.util.Arrays;
import java.util.List;
import java.util.Random;

/** Writes programs by chance, most of them sound, as the calls that make them. */
final class Writer {
    private static final int NUMBER = ClosedWorld.NUMBER;
    private static final int UNSET = ClosedWorld.UNSET;

    private final Random random;
    private final List<int[]> calls = new ArrayList<>();
    private final int[] parents = new int[6];
    private final int[] fields = new int[6];
    private final int[] owners = new int[10];
    private final int[] selectors = new int[10];
    private final int[] arguments = new int[10];
    private int types;
    private int methods;

    // the method that is being written
    private int[] locals;
    private List<Integer> stack;
    private List<int[]> code;
    private List<List<Integer>> stacksBefore;

    Writer(Random random) {
        this.random = random;
    }

    List<int[]> program() {
        types = 1 + random.nextInt(6);
        for (int type = 0; type < types; type++) {
            parents[type] = random.nextInt(4) == 0 ? -1 : random.nextInt(type + 1) - 1;
            int own = random.nextInt(3);
            int above = parents[type] == -1 ? 0 : fields[parents[type]];
            own = Math.min(own, 6 - above);
            fields[type] = above + own;
            calls.add(Calls.call(Calls.TYPE, parents[type], own));
        }
        int wanted = 2 + random.nextInt(9);
        addMethod(random.nextInt(types), -1, 1);
        for (int k = 1; k < wanted; k++) {
            addMethod(random.nextInt(types), random.nextInt(5) < 2 ? -1 : random.nextInt(4), random.nextInt(3));
        }
        for (int type = 0; type < types; type++) {
            int method = random.nextInt(methods);
            if (selectors[method] == -1 && arguments[method] == 0) {
                calls.add(Calls.call(Calls.INITIALISER, type, method));
            }
        }
        for (int method = 0; method < methods; method++) {
            addSoundCode(method);
        }
        return calls;
    }

    private void addMethod(int type, int selector, int count) {
        for (int method = 0; method < methods; method++) {
            if (selector != -1 && owners[method] == type && selectors[method] == selector) {
                return;
            }
        }
        owners[methods] = type;
        selectors[methods] = selector;
        arguments[methods] = count;
        methods++;
        calls.add(Calls.call(Calls.METHOD, type, selector, count));
    }

    /** Tries until the model takes the method for sound; now and then it is left as it came. */
    private void addSoundCode(int method) {
        int before = calls.size();
        for (int attempt = 0; attempt < 40; attempt++) {
            while (calls.size() > before) {
                calls.remove(calls.size() - 1);
            }
            addCode(method);
            Model model = new Model();
            calls.forEach(call -> Calls.ask(model, call));
            if (model.close() != method || random.nextInt(400) == 0) {
                return;
            }
        }
    }

    private void addCode(int method) {
        locals = new int[4];
        Arrays.fill(locals, UNSET);
        boolean plain = selectors[method] == -1;
        for (int k = 0; k < (plain ? arguments[method] : 2); k++) {
            locals[k] = NUMBER;
        }
        if (!plain) {
            locals[0] = owners[method];
        }
        stack = new ArrayList<>();
        code = new ArrayList<>();
        stacksBefore = new ArrayList<>();
        int length = 2 + random.nextInt(17);
        for (int attempt = 0; attempt < 300 && code.size() < length; attempt++) {
            addInstruction();
        }
        finish();
        aimJumps();
        for (int[] instruction : code) {
            calls.add(Calls.call(Calls.CODE, method, instruction[0], instruction[1]));
        }
        addGuards(method);
    }

    private void emit(int op, int a) {
        stacksBefore.add(new ArrayList<>(stack));
        code.add(new int[] {op, a});
    }

    private void finish() {
        if (stack.size() == 6) {
            emit(4, 0);
            stack.remove(5);
        }
        if (stack.isEmpty() || stack.get(stack.size() - 1) != NUMBER) {
            emit(0, random.nextInt(9) - 3);
            stack.add(NUMBER);
        }
        if (code.size() < 20) {
            emit(random.nextInt(5) == 0 ? 21 : 22, 0);
        }
    }

    private boolean onTop(int count) {
        for (int k = 0; k < count; k++) {
            if (stack.size() <= k || stack.get(stack.size() - 1 - k) != NUMBER) {
                return false;
            }
        }
        return true;
    }

    private int objectUnder(int numbers) {
        int at = stack.size() - 1 - numbers;
        return onTop(numbers) && at >= 0 && stack.get(at) < UNSET ? stack.get(at) : -1;
    }

    private void drop(int count) {
        for (int k = 0; k < count; k++) {
            stack.remove(stack.size() - 1);
        }
    }

    /** Emits an instruction when the stack has what it takes, and follows it. */
    private void emitIf(boolean fits, int op, int a, int takes, int puts) {
        if (!fits || stack.size() - takes + (puts == -1 ? 0 : 1) > 6) {
            return;
        }
        emit(op, a);
        drop(takes);
        if (puts != -1) {
            stack.add(puts);
        }
    }

    private void addInstruction() {
        int op = random.nextInt(23);
        int type = random.nextInt(types);
        int local = random.nextInt(4);
        switch (op) {
            case 0 -> emitIf(true, op, random.nextInt(12) - 2, 0, NUMBER);
            case 1 -> emitIf(random.nextInt(3) == 0, op, type, 0, type);
            case 2 -> emitIf(locals[local] != UNSET, op, local, 0, locals[local]);
            case 3 -> {
                if (!stack.isEmpty()) {
                    emit(op, local);
                    locals[local] = stack.remove(stack.size() - 1);
                }
            }
            case 4 -> emitIf(!stack.isEmpty() && random.nextInt(3) == 0, op, 0, 1, -1);
            case 5, 6, 7, 8 -> emitIf(onTop(2), op, 0, 2, NUMBER);
            case 9 -> emitEnd(random.nextInt(3) == 0, op, 0);
            case 10 -> emitIf(onTop(1), op, 0, 1, -1);
            case 11 -> emitIf(true, op, type, 0, type);
            case 12 -> emitIf(field(0) >= 0, op, field(0), 1, NUMBER);
            case 13 -> emitIf(field(1) >= 0, op, field(1), 2, -1);
            case 14 -> emitIf(random.nextInt(2) == 0, op, type, 0, NUMBER);
            case 15 -> emitIf(onTop(1), op, type, 1, -1);
            case 16 -> {
                int method = random.nextInt(methods);
                emitIf(selectors[method] == -1 && onTop(arguments[method]), op, method, arguments[method], NUMBER);
            }
            case 17 -> {
                int receiver = objectUnder(1);
                int selector = random.nextInt(4);
                emitIf(receiver != -1 && answers(receiver, selector), op, selector, 2, NUMBER);
            }
            case 18 -> emitIf(objectUnder(0) != -1 && random.nextInt(2) == 0, op, type, 1, type);
            case 19 -> emitIf(objectUnder(0) != -1, op, type, 1, NUMBER);
            case 20 -> emitIf(onTop(1), op, 0, 1, -1);
            case 21, 22 -> emitEnd(onTop(1) && random.nextInt(6) == 0, op, 1);
            default -> { }
        }
    }

    /** An instruction behind which code goes on only where a jump or a handler comes in. */
    private void emitEnd(boolean fits, int op, int takes) {
        if (!fits) {
            return;
        }
        emit(op, 0);
        drop(takes);
        if (op != 9 || random.nextInt(2) == 0) {
            stack.clear();
            if (random.nextInt(2) == 0) {
                stack.add(NUMBER);
            }
        }
    }

    private int field(int numbers) {
        int type = objectUnder(numbers);
        return type == -1 || fields[type] == 0 ? -1 : random.nextInt(fields[type]);
    }

    private boolean answers(int type, int selector) {
        for (int up = type; up != -1; up = parents[up]) {
            for (int method = 0; method < methods; method++) {
                if (owners[method] == up && selectors[method] == selector) {
                    return true;
                }
            }
        }
        return false;
    }

    private void aimJumps() {
        for (int at = 0; at < code.size(); at++) {
            int op = code.get(at)[0];
            if (op == 9 || op == 10) {
                int size = stacksBefore.get(at).size() - (op == 10 ? 1 : 0);
                List<Integer> aims = new ArrayList<>();
                for (int to = 0; to < code.size(); to++) {
                    if (stacksBefore.get(to).size() == size && to != at) {
                        aims.add(to);
                    }
                }
                code.get(at)[1] = aims.isEmpty() ? random.nextInt(20) : aims.get(random.nextInt(aims.size()));
            }
        }
    }

    private void addGuards(int method) {
        for (int k = random.nextInt(4); k > 0; k--) {
            List<Integer> aims = new ArrayList<>();
            for (int to = 0; to < code.size(); to++) {
                if (stacksBefore.get(to).equals(List.of(NUMBER))) {
                    aims.add(to);
                }
            }
            if (aims.isEmpty()) {
                return;
            }
            int from = random.nextInt(code.size());
            int to = from + 1 + random.nextInt(Math.min(6, 20 - from));
            calls.add(Calls.call(Calls.GUARD, method, from, to, aims.get(random.nextInt(aims.size()))));
        }
    }
}
