import java.util.ArrayDeque;
import java.util.ArrayList;
import java.util.Collections;
import java.util.Deque;
import java.util.HashSet;
import java.util.LinkedHashSet;
import java.util.List;
import java.util.Set;

/**
 * The document once more, told in another way than the program tells it: the check follows every
 * single path and joins at the end, what is reached is found by following it, and a run throws.
 */
final class Model {
    private static final int NONE = -1;
    private static final int NUMBER = 9;
    private static final int UNSET = 8;

    private static final class Cls {
        final int number;
        final Cls parent;
        final int fields;
        Method initialiser;

        Cls(int number, Cls parent, int fields) {
            this.number = number;
            this.parent = parent;
            this.fields = fields;
        }

        boolean isOf(Cls other) {
            return this == other || parent != null && parent.isOf(other);
        }
    }

    private static final class Method {
        final int number;
        final Cls owner;
        final int selector;
        final int arguments;
        final List<int[]> code = new ArrayList<>();
        final List<int[]> guards = new ArrayList<>();
        /** For each instruction its joined types, locals first; null where it is not reached. */
        List<List<Integer>> types;

        Method(int number, Cls owner, int selector, int arguments) {
            this.number = number;
            this.owner = owner;
            this.selector = selector;
            this.arguments = arguments;
        }

        boolean plain() {
            return selector == NONE;
        }

        int[] guardOver(int instruction) {
            for (int[] guard : guards) {
                if (guard[0] <= instruction && instruction < guard[1]) {
                    return guard;
                }
            }
            return null;
        }
    }

    private static final class Unsound extends RuntimeException {
        private static final long serialVersionUID = 1;
    }

    private static final class Thrown extends RuntimeException {
        private static final long serialVersionUID = 1;
        final int number;

        Thrown(int number) {
            super(null, null, false, false);
            this.number = number;
        }
    }

    private static final class Spent extends RuntimeException {
        private static final long serialVersionUID = 1;
    }

    private static final class Thing {
        final Cls type;
        final int[] fields;

        Thing(Cls type) {
            this.type = type;
            this.fields = new int[type.fields];
        }
    }

    private final List<Cls> classes = new ArrayList<>();
    private final List<Method> methods = new ArrayList<>();
    private boolean closed;
    private Set<Method> liveOnes;
    private Set<Cls> madeOnes;
    private boolean ran;
    private int outcome;
    private int result;
    private int steps;
    private int fuel;
    private int running;
    private List<Integer> out;
    private List<Cls> begunOnes;
    private int[] statics;
    private int things;

    // ---- the program as it is given

    private Cls cls(int number) {
        return number >= 0 && number < classes.size() ? classes.get(number) : null;
    }

    private Method meth(int number) {
        return number >= 0 && number < methods.size() ? methods.get(number) : null;
    }

    private void changed() {
        closed = false;
        ran = false;
    }

    int type(int parent, int fields) {
        Cls above = cls(parent);
        if (classes.size() == 6 || parent != NONE && above == null || fields < 0) {
            return NONE;
        }
        long all = (long) fields + (above == null ? 0 : above.fields);
        if (all > 6) {
            return NONE;
        }
        changed();
        classes.add(new Cls(classes.size(), above, (int) all));
        return classes.size() - 1;
    }

    int method(int type, int selector, int arguments) {
        Cls owner = cls(type);
        if (methods.size() == 10 || owner == null || selector < NONE || selector > 3) {
            return NONE;
        }
        if (selector == NONE && (arguments < 0 || arguments > 2)) {
            return NONE;
        }
        for (Method m : methods) {
            if (selector != NONE && m.owner == owner && m.selector == selector) {
                return NONE;
            }
        }
        changed();
        methods.add(new Method(methods.size(), owner, selector, selector == NONE ? arguments : 1));
        return methods.size() - 1;
    }

    boolean initialiser(int type, int method) {
        Method m = meth(method);
        if (cls(type) == null || m == null || !m.plain() || m.arguments != 0) {
            return false;
        }
        changed();
        cls(type).initialiser = m;
        return true;
    }

    int code(int method, int op, int a) {
        Method m = meth(method);
        if (m == null || m.code.size() == 20 || op < 0 || op > 22) {
            return NONE;
        }
        boolean fits = switch (op) {
            case 1, 11, 14, 15, 18, 19 -> cls(a) != null;
            case 2, 3, 17 -> a >= 0 && a <= 3;
            case 9, 10 -> a >= 0 && a <= 19;
            case 12, 13 -> a >= 0 && a <= 5;
            case 16 -> meth(a) != null && meth(a).plain();
            default -> true;
        };
        if (!fits) {
            return NONE;
        }
        changed();
        m.code.add(new int[] {op, a});
        return m.code.size() - 1;
    }

    boolean guard(int method, int from, int to, int handler) {
        Method m = meth(method);
        boolean fits = 0 <= from && from < to && to <= 20 && 0 <= handler && handler <= 19;
        if (m == null || m.guards.size() == 3 || !fits) {
            return false;
        }
        changed();
        m.guards.add(new int[] {from, to, handler});
        return true;
    }

    // ---- the tables

    private Method answering(Cls type, int selector) {
        for (Method m : methods) {
            if (!m.plain() && m.owner == type && m.selector == selector) {
                return m;
            }
        }
        return type.parent == null ? null : answering(type.parent, selector);
    }

    private List<Integer> table(Cls type) {
        List<Integer> table = type.parent == null ? new ArrayList<>() : table(type.parent);
        for (Method m : methods) {
            if (m.owner == type && !m.plain() && !table.contains(m.selector)) {
                table.add(m.selector);
            }
        }
        return table;
    }

    int answer(int type, int selector) {
        Method m = cls(type) == null ? null : answering(cls(type), selector);
        return m == null ? NONE : m.number;
    }

    int slot(int type, int selector) {
        return cls(type) == null ? NONE : table(cls(type)).indexOf(selector);
    }

    // ---- the check

    private static void need(boolean holds) {
        if (!holds) {
            throw new Unsound();
        }
    }

    private static int take(List<Integer> state) {
        need(state.size() > 4);
        return state.remove(state.size() - 1);
    }

    private void takeAll(List<Integer> state, int numbers) {
        for (int k = 0; k < numbers; k++) {
            need(take(state) == NUMBER);
        }
    }

    private Cls takeObject(List<Integer> state) {
        Cls type = cls(take(state));
        need(type != null);
        return type;
    }

    /** The types behind an instruction. */
    private List<Integer> after(int[] instruction, List<Integer> before) {
        List<Integer> state = new ArrayList<>(before);
        int a = instruction[1];
        switch (instruction[0]) {
            case 0, 14 -> state.add(NUMBER);
            case 1, 11 -> state.add(a);
            case 2 -> {
                need(state.get(a) != UNSET);
                state.add(state.get(a));
            }
            case 3 -> state.set(a, take(state));
            case 4 -> take(state);
            case 5, 6, 7, 8 -> {
                takeAll(state, 2);
                state.add(NUMBER);
            }
            case 10, 15, 20, 21, 22 -> takeAll(state, 1);
            case 12 -> {
                need(takeObject(state).fields > a);
                state.add(NUMBER);
            }
            case 13 -> {
                takeAll(state, 1);
                need(takeObject(state).fields > a);
            }
            case 16 -> {
                takeAll(state, methods.get(a).arguments);
                state.add(NUMBER);
            }
            case 17 -> {
                takeAll(state, 1);
                need(answering(takeObject(state), a) != null);
                state.add(NUMBER);
            }
            case 18 -> {
                takeObject(state);
                state.add(a);
            }
            case 19 -> {
                takeObject(state);
                state.add(NUMBER);
            }
            default -> { }
        }
        need(state.size() <= 10);
        return state;
    }

    private static List<Integer> wayOn(int[] instruction, int at) {
        return switch (instruction[0]) {
            case 9 -> List.of(instruction[1]);
            case 10 -> List.of(at + 1, instruction[1]);
            case 21, 22 -> List.of();
            default -> List.of(at + 1);
        };
    }

    private static void meet(List<Set<List<Integer>>> seen, Deque<Object[]> open, int at, List<Integer> state) {
        need(at < seen.size());
        if (seen.get(at).add(state)) {
            open.add(new Object[] {at, state});
        }
    }

    /** Every single state in which each instruction is met, along every path. */
    private List<Set<List<Integer>>> paths(Method m) {
        List<Set<List<Integer>>> seen = new ArrayList<>();
        m.code.forEach(instruction -> seen.add(new LinkedHashSet<>()));
        List<Integer> start = new ArrayList<>(Collections.nCopies(4, UNSET));
        for (int k = 0; k < m.arguments; k++) {
            start.set(m.plain() ? k : k + 1, NUMBER);
        }
        if (!m.plain()) {
            start.set(0, m.owner.number);
        }
        Deque<Object[]> open = new ArrayDeque<>();
        meet(seen, open, 0, start);
        while (!open.isEmpty()) {
            Object[] met = open.poll();
            int at = (Integer) met[0];
            List<Integer> state = new ArrayList<>();
            for (Object type : (List<?>) met[1]) {
                state.add((Integer) type);
            }
            int[] guard = m.guardOver(at);
            if (guard != null) {
                List<Integer> thrown = new ArrayList<>(state.subList(0, 4));
                thrown.add(NUMBER);
                meet(seen, open, guard[2], thrown);
            }
            List<Integer> behind = after(m.code.get(at), state);
            for (int next : wayOn(m.code.get(at), at)) {
                meet(seen, open, next, behind);
            }
        }
        return seen;
    }

    private int join(int one, int other) {
        if (one == other) {
            return one;
        }
        for (Cls up = cls(one); up != null && cls(other) != null; up = up.parent) {
            if (cls(other).isOf(up)) {
                return up.number;
            }
        }
        return UNSET;
    }

    private void check(Method m) {
        m.types = new ArrayList<>();
        for (Set<List<Integer>> states : paths(m)) {
            List<Integer> joined = null;
            for (List<Integer> state : states) {
                need(joined == null || joined.size() == state.size());
                if (joined == null) {
                    joined = new ArrayList<>(state);
                }
                for (int k = 0; k < state.size(); k++) {
                    joined.set(k, join(joined.get(k), state.get(k)));
                }
            }
            m.types.add(joined);
        }
        for (int at = 0; at < m.code.size(); at++) {
            if (m.types.get(at) != null) {
                after(m.code.get(at), m.types.get(at));
            }
        }
    }

    int close() {
        if (closed) {
            return NONE;
        }
        if (methods.isEmpty() || !methods.get(0).plain() || methods.get(0).arguments != 1) {
            return 10;
        }
        for (Method m : methods) {
            try {
                check(m);
            } catch (Unsound unsound) {
                return m.number;
            }
        }
        closed = true;
        findLive();
        return NONE;
    }

    int typeAt(int method, int instruction, int place) {
        Method m = meth(method);
        if (!closed || m == null || instruction < 0 || instruction >= m.code.size()) {
            return NONE;
        }
        List<Integer> types = m.types.get(instruction);
        return types == null || place < 0 || place >= types.size() ? NONE : types.get(place);
    }

    // ---- what can be reached

    private void findLive() {
        liveOnes = new HashSet<>();
        madeOnes = new HashSet<>();
        liveOnes.add(methods.get(0));
        touch(methods.get(0).owner);
        int before = -1;
        while (before != liveOnes.size() + madeOnes.size()) {
            before = liveOnes.size() + madeOnes.size();
            for (Method m : new ArrayList<>(liveOnes)) {
                follow(m);
            }
        }
    }

    private void touch(Cls type) {
        for (Cls up = type; up != null; up = up.parent) {
            if (up.initialiser != null) {
                liveOnes.add(up.initialiser);
            }
        }
    }

    private void follow(Method m) {
        for (int at = 0; at < m.code.size(); at++) {
            int[] instruction = m.code.get(at);
            if (m.types.get(at) == null) {
                continue;
            }
            switch (instruction[0]) {
                case 11 -> {
                    madeOnes.add(cls(instruction[1]));
                    touch(cls(instruction[1]));
                }
                case 14, 15 -> touch(cls(instruction[1]));
                case 16 -> {
                    liveOnes.add(meth(instruction[1]));
                    touch(meth(instruction[1]).owner);
                }
                case 17 -> liveOnes.addAll(targetsOf(m, at));
                default -> { }
            }
        }
    }

    private Set<Method> targetsOf(Method m, int at) {
        List<Integer> types = m.types.get(at);
        Cls receiver = cls(types.get(types.size() - 2));
        Set<Method> targets = new HashSet<>();
        for (Cls made : madeOnes) {
            if (made.isOf(receiver)) {
                targets.add(answering(made, m.code.get(at)[1]));
            }
        }
        return targets;
    }

    boolean live(int method) {
        return closed && meth(method) != null && liveOnes.contains(meth(method));
    }

    int targets(int method, int instruction) {
        if (!live(method) || instruction < 0 || instruction >= meth(method).code.size()) {
            return NONE;
        }
        Method m = meth(method);
        boolean isSend = m.code.get(instruction)[0] == 17 && m.types.get(instruction) != null;
        return isSend ? targetsOf(m, instruction).size() : NONE;
    }

    // ---- a run

    int run(int argument, int allowed) {
        if (!closed || allowed < 0 || allowed > 2000) {
            return NONE;
        }
        ran = true;
        steps = 0;
        fuel = allowed;
        running = 0;
        out = new ArrayList<>();
        begunOnes = new ArrayList<>();
        statics = new int[6];
        things = 0;
        try {
            trigger(methods.get(0).owner);
            result = perform(methods.get(0), argument);
            outcome = 0;
        } catch (Thrown thrown) {
            result = thrown.number;
            outcome = 1;
        } catch (Spent spent) {
            result = 0;
            outcome = 2;
        }
        return outcome;
    }

    private void trigger(Cls type) {
        if (type.parent != null) {
            trigger(type.parent);
        }
        if (!begunOnes.contains(type)) {
            begunOnes.add(type);
            if (type.initialiser != null) {
                perform(type.initialiser);
            }
        }
    }

    private int perform(Method m, Object... inputs) {
        if (running == 10) {
            throw new Thrown(-5);
        }
        running++;
        try {
            return interpret(m, inputs);
        } finally {
            running--;
        }
    }

    private int interpret(Method m, Object[] inputs) {
        Object[] locals = new Object[4];
        System.arraycopy(inputs, 0, locals, 0, inputs.length);
        List<Object> stack = new ArrayList<>();
        int at = 0;
        while (true) {
            if (steps == fuel) {
                throw new Spent();
            }
            steps++;
            int[] instruction = m.code.get(at);
            try {
                if (instruction[0] == 22) {
                    return (Integer) popped(stack);
                }
                int went = execute(instruction, locals, stack);
                at = went == NONE ? at + 1 : went;
            } catch (Thrown thrown) {
                int[] guard = m.guardOver(at);
                if (guard == null) {
                    throw thrown;
                }
                stack.clear();
                stack.add(thrown.number);
                at = guard[2];
            }
        }
    }

    private static Object popped(List<Object> stack) {
        return stack.remove(stack.size() - 1);
    }

    private static int number(List<Object> stack) {
        return (Integer) popped(stack);
    }

    private static Thing thing(Object value) {
        if (value == null) {
            throw new Thrown(-1);
        }
        return (Thing) value;
    }

    /** Does an instruction; answers where it goes on, or NONE for the next one. */
    private int execute(int[] instruction, Object[] locals, List<Object> stack) {
        int a = instruction[1];
        switch (instruction[0]) {
            case 0 -> stack.add(a);
            case 1 -> stack.add(null);
            case 2 -> stack.add(locals[a]);
            case 3 -> locals[a] = popped(stack);
            case 4 -> popped(stack);
            case 5, 6, 7, 8 -> {
                int m = number(stack);
                int n = number(stack);
                stack.add(reckon(instruction[0], n, m));
            }
            case 9 -> {
                return a;
            }
            case 10 -> {
                return number(stack) <= 0 ? a : NONE;
            }
            case 11 -> {
                trigger(cls(a));
                if (things == 16) {
                    throw new Thrown(-4);
                }
                things++;
                stack.add(new Thing(cls(a)));
            }
            case 12 -> stack.add(thing(popped(stack)).fields[a]);
            case 13 -> {
                int n = number(stack);
                thing(popped(stack)).fields[a] = n;
            }
            case 14 -> {
                trigger(cls(a));
                stack.add(statics[a]);
            }
            case 15 -> {
                trigger(cls(a));
                statics[a] = number(stack);
            }
            case 16 -> {
                trigger(meth(a).owner);
                Object[] inputs = new Object[meth(a).arguments];
                for (int k = inputs.length - 1; k >= 0; k--) {
                    inputs[k] = popped(stack);
                }
                stack.add(perform(meth(a), inputs));
            }
            case 17 -> {
                int n = number(stack);
                Thing receiver = thing(popped(stack));
                stack.add(perform(answering(receiver.type, a), receiver, n));
            }
            case 18 -> {
                Thing cast = (Thing) stack.get(stack.size() - 1);
                if (cast != null && !cast.type.isOf(cls(a))) {
                    throw new Thrown(-3);
                }
            }
            case 19 -> {
                Thing asked = (Thing) popped(stack);
                stack.add(asked != null && asked.type.isOf(cls(a)) ? 1 : 0);
            }
            case 20 -> out.add(number(stack));
            case 21 -> throw new Thrown(number(stack));
            default -> throw new IllegalStateException();
        }
        return NONE;
    }

    private static int reckon(int op, int n, int m) {
        if (op == 8 && m == 0) {
            throw new Thrown(-2);
        }
        return switch (op) {
            case 5 -> n + m;
            case 6 -> n - m;
            case 7 -> n * m;
            default -> (int) ((long) n / m);
        };
    }

    int result() {
        return ran ? result : 0;
    }

    int steps() {
        return ran ? steps : NONE;
    }

    int prints() {
        return ran ? out.size() : NONE;
    }

    int printed(int k) {
        return ran && k >= 0 && k <= 15 && k < out.size() ? out.get(k) : 0;
    }

    int begun(int type) {
        return ran && cls(type) != null ? begunOnes.indexOf(cls(type)) : NONE;
    }

    int objects() {
        return ran ? things : NONE;
    }

    int kept(int type) {
        return ran && cls(type) != null ? statics[type] : 0;
    }
}
