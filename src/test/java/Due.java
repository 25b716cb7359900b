import java.util.List;

/** Counts the answers that are not as due, and ends a test with exit code 1 if there was one. */
final class Due {
    private static final String[] OPS = {
        "PUSH", "NULL", "LOAD", "STORE", "POP", "ADD", "SUB", "MUL", "DIV", "JUMP", "LE", "NEW",
        "GET", "PUT", "STATIC", "SET", "CALL", "SEND", "CAST", "ISA", "PRINT", "THROW", "RETURN"};

    private final Document document;
    private String sentence = "";
    private int asked;
    private int wrong;

    Due() {
        this(null);
    }

    /** For tests that quote the sentences of the document. */
    Due(Document document) {
        this.document = document;
    }

    /** What is asked next is what these words of the document say. */
    void says(String words) {
        sentence = "'" + words + "': ";
        is("stands in the document", document.quote(words), true);
    }

    /** Each sentence that no test has quoted is an answer that is not as due. */
    void leavesOut(List<String> sentences) {
        sentence = "";
        for (String words : sentences) {
            is("a test quotes '" + words + "'", false, true);
        }
    }

    void is(String what, long got, long want) {
        asked++;
        if (got != want) {
            wrong++;
            System.out.println(sentence + what + " answered " + got + ", due is " + want);
        }
    }

    void is(String what, boolean got, boolean want) {
        is(what, got ? 1 : 0, want ? 1 : 0);
    }

    void end() {
        System.out.println(asked + " answers, " + wrong + " not as due");
        if (wrong != 0) {
            System.exit(1);
        }
    }

    /** Gives a method the instructions of a text such as "PUSH 3; RETURN"; none of them may be refused. */
    void write(ClosedWorld x, int method, String text) {
        for (String line : text.split(";")) {
            String[] words = line.trim().split(" +");
            int a = words.length > 1 ? Integer.parseInt(words[1]) : 0;
            is("is taken: " + line, x.code(method, op(words[0]), a) != ClosedWorld.NONE, true);
        }
    }

    /** Runs a closed program with the most fuel. */
    void runs(ClosedWorld x, int argument, int end, int result) {
        is("run with " + argument, x.run(argument, 2000), end);
        is("result with " + argument, x.result(), result);
    }

    static int op(String name) {
        for (int op = 0; op < OPS.length; op++) {
            if (OPS[op].equals(name)) {
                return op;
            }
        }
        throw new IllegalArgumentException(name);
    }

    /** A world with one class without fields, and method 0 of this code. */
    ClosedWorld world(String text) {
        ClosedWorld x = new ClosedWorld();
        is("class 0", x.type(ClosedWorld.NONE, 0), 0);
        is("method 0", x.method(0, ClosedWorld.NONE, 1), 0);
        write(x, 0, text);
        return x;
    }
}
