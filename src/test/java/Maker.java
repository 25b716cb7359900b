import java.util.ArrayList;
import java.util.List;

/** Puts a program together; all methods are there before code names them, and nothing may be refused. */
final class Maker {
    private final Due due;
    private final ClosedWorld x = new ClosedWorld();
    private final List<String> texts = new ArrayList<>();
    private int types;

    Maker(Due due) {
        this.due = due;
    }

    Maker type(int parent, int fields) {
        due.is("taken: class " + types, x.type(parent, fields), types);
        types++;
        return this;
    }

    /** Classes without fields. */
    Maker types(int... parents) {
        for (int parent : parents) {
            type(parent, 0);
        }
        return this;
    }

    Maker plain(int type, int arguments, String text) {
        due.is("taken: plain method " + texts.size(), x.method(type, ClosedWorld.NONE, arguments), texts.size());
        texts.add(text);
        return this;
    }

    Maker sent(int type, int selector, String text) {
        due.is("taken: method " + texts.size(), x.method(type, selector, 1), texts.size());
        texts.add(text);
        return this;
    }

    Maker initialiser(int type, int method) {
        due.is("taken: initialiser of " + type, x.initialiser(type, method), true);
        return this;
    }

    Maker guard(int method, int from, int to, int handler) {
        due.is("taken: guard of " + method, x.guard(method, from, to, handler), true);
        return this;
    }

    ClosedWorld open() {
        for (int method = 0; method < texts.size(); method++) {
            if (!texts.get(method).isEmpty()) {
                due.write(x, method, texts.get(method));
            }
        }
        return x;
    }

    ClosedWorld closed() {
        ClosedWorld made = open();
        due.is("close", made.close(), ClosedWorld.NONE);
        return made;
    }
}
