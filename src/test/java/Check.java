import java.util.List;

/**
 * What the tests share: programs written as words, and answers held against those that are due.
 *
 * <p>Words stand between blanks: a sign, a number, v0..v5 for a VAR or f0..f3 for a CALL. An @ before
 * a word marks the place that is due; an @ alone at the end marks the place behind the last token.
 */
final class Check {
    static final int MIN = Integer.MIN_VALUE;
    static final int MAX = Integer.MAX_VALUE;

    private static final List<String> SIGNS = List.of(
            "m", "(", ")", "[", "]", "{", "}", ";", ",", "=",
            "||", "&&", "|", "^", "&", "==", "!=", "<", ">", "<=", ">=", "<<", ">>", ">>>",
            "+", "-", "*", "/", "%", "!", "~",
            "if", "else", "while", "break", "continue", "return", "print", "func");

    private static int wrong = 0;
    private static String sentence = "";

    private Check() {
    }

    /** Names the sentence of the document that the checks after this one are about. */
    static void sentence(String words) {
        sentence = " [" + words + "]";
    }

    static void due(String what, long got, long want) {
        if (got != want) {
            wrong++;
            System.out.println(what + " answered " + got + ", due is " + want + sentence);
        }
    }

    static void due(String what, boolean got, boolean want) {
        due(what, got ? 1 : 0, want ? 1 : 0);
    }

    static void finish() {
        if (wrong != 0) {
            System.out.println(wrong + " answers are not as due");
            System.exit(1);
        }
    }

    static String[] words(String program) {
        String trimmed = program.trim();
        return trimmed.isEmpty() ? new String[0] : trimmed.split("\\s+");
    }

    static int count(String program) {
        int count = 0;
        for (String word : words(program)) {
            count += word.equals("@") ? 0 : 1;
        }
        return count;
    }

    static int marked(String program) {
        String[] words = words(program);
        for (int i = 0; i < words.length; i++) {
            if (words[i].startsWith("@")) {
                return i;
            }
        }
        return -1;
    }

    static void feed(RegisterCompiler x, String program) {
        for (String word : words(program)) {
            if (!word.equals("@")) {
                due("token for " + word, feedWord(x, word.replace("@", "")), true);
            }
        }
    }

    static int kind(String word) {
        int sign = SIGNS.indexOf(word);
        if (sign >= 0) {
            return sign + 3;
        }
        return word.startsWith("v") ? 1 : word.startsWith("f") ? 2 : 0;
    }

    static int value(String word) {
        int kind = kind(word);
        return kind > 2 ? 0 : Integer.parseInt(kind == 0 ? word : word.substring(1));
    }

    private static boolean feedWord(RegisterCompiler x, String word) {
        return x.token(kind(word), value(word));
    }

    static RegisterCompiler fed(String program) {
        RegisterCompiler x = new RegisterCompiler(3);
        feed(x, program);
        return x;
    }

    static RegisterCompiler compiled(String program) {
        return compiled(3, program);
    }

    static RegisterCompiler compiled(int registers, String program) {
        RegisterCompiler x = new RegisterCompiler(registers);
        feed(x, program);
        due("compile() of " + program, x.compile(), RegisterCompiler.OK);
        return x;
    }

    /** Removes the tokens of x, gives it those of the program and compiles them. */
    static int recompile(RegisterCompiler x, String program) {
        x.wipe();
        feed(x, program);
        return x.compile();
    }

    static void dueCompile(String program, int answer, int place) {
        RegisterCompiler x = fed(program);
        due("compile() of " + program, x.compile(), answer);
        due("place() of " + program, x.place(), place);
        if (answer != RegisterCompiler.OK) {
            due("run(0, 0, 0, 0) of " + program, x.run(0, 0, 0, 0), RegisterCompiler.REFUSED);
        }
    }

    /** The place that is due is the marked one, -1 if there is none. */
    static void dueCompile(String program, int answer) {
        dueCompile(program, answer, marked(program));
    }

    /** Runs function 0; a run that is not DONE ends at the place given and its result is 0. */
    static void dueRun(RegisterCompiler x, int a, int b, int c, int answer, int resultOrPlace) {
        String what = "run(0, " + a + ", " + b + ", " + c + ")";
        boolean done = answer == RegisterCompiler.DONE;
        due(what, x.run(0, a, b, c), answer);
        due(what + " result()", x.result(), done ? resultOrPlace : 0);
        due(what + " endedAt()", x.endedAt(), done ? -1 : resultOrPlace);
    }

    /** Runs function 0 of the program, which is DONE; answers the object. */
    static RegisterCompiler dueResult(String program, int a, int b, int c, int want) {
        RegisterCompiler x = compiled(program);
        dueRun(x, a, b, c, RegisterCompiler.DONE, want);
        return x;
    }

    /** Runs function 0 of the program, which ends at the marked place; answers the object. */
    static RegisterCompiler dueFault(String program, int a, int b, int c, int answer) {
        RegisterCompiler x = compiled(program);
        dueRun(x, a, b, c, answer, marked(program));
        return x;
    }

    /** The values that the latest run printed. */
    static void dueOutput(RegisterCompiler x, int... values) {
        due("printed()", x.printed(), values.length);
        for (int k = 0; k < 24; k++) {
            due("output(" + k + ")", x.output(k), k < values.length ? values[k] : 0);
        }
    }

    /** The value of an expression over v0, v1, v2, with every number of registers. */
    static void dueValue(String expression, int a, int b, int c, int want) {
        for (int registers = 0; registers <= 7; registers++) {
            RegisterCompiler x = compiled(registers, "func 3 { return " + expression + " ; }");
            String what = expression + " with " + a + " " + b + " " + c;
            due("run of " + what, x.run(0, a, b, c), RegisterCompiler.DONE);
            due(what, x.result(), want);
        }
    }
}
