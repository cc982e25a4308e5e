import java.util.List;

/** What the tests share: programs written as words, and answers held against those that are due. */
final class Check {
    private static final List<String> SIGNS = List.of(
            "m", "(", ")", "[", "]", "{", "}", ";", ",", "=",
            "||", "&&", "|", "^", "&", "==", "!=", "<", ">", "<=", ">=", "<<", ">>", ">>>",
            "+", "-", "*", "/", "%", "!", "~",
            "if", "else", "while", "break", "continue", "return", "print", "func");

    private static int wrong = 0;

    private Check() {
    }

    static void due(String what, long got, long want) {
        if (got != want) {
            wrong++;
            System.out.println(what + " answered " + got + ", due is " + want);
        }
    }

    static void due(String what, boolean got, boolean want) {
        due(what, got ? 1 : 0, want ? 1 : 0);
    }

    static void finish() {
        if (wrong != 0) {
            System.out.println(wrong + " answers are not as due");
            System.exit(1);
        }
    }

    /** Words stand between blanks: a sign, a number, v0..v5 for a VAR or f0..f3 for a CALL. */
    static void feed(RegisterCompiler x, String words) {
        for (String word : words.trim().split("\\s+")) {
            if (!word.isEmpty()) {
                due("token for " + word, feedWord(x, word), true);
            }
        }
    }

    private static boolean feedWord(RegisterCompiler x, String word) {
        int sign = SIGNS.indexOf(word);
        if (sign >= 0) {
            return x.token(sign + 3, 0);
        }
        if (word.startsWith("v")) {
            return x.token(1, Integer.parseInt(word.substring(1)));
        }
        if (word.startsWith("f")) {
            return x.token(2, Integer.parseInt(word.substring(1)));
        }
        return x.token(0, Integer.parseInt(word));
    }

    static RegisterCompiler fed(String words) {
        RegisterCompiler x = new RegisterCompiler(3);
        feed(x, words);
        return x;
    }

    static RegisterCompiler compiled(String words) {
        RegisterCompiler x = fed(words);
        due("compile() of " + words, x.compile(), RegisterCompiler.OK);
        return x;
    }

    static void dueCompile(String words, int answer, int place) {
        RegisterCompiler x = fed(words);
        due("compile() of " + words, x.compile(), answer);
        due("place() of " + words, x.place(), place);
        int run = answer == RegisterCompiler.OK ? RegisterCompiler.DONE : RegisterCompiler.REFUSED;
        if (run == RegisterCompiler.REFUSED) {
            due("run(0, 0, 0, 0) of " + words, x.run(0, 0, 0, 0), run);
        }
    }

    /** Runs function 0; a run that is not DONE ends at the place given and its result is 0. */
    static void dueRun(RegisterCompiler x, int a, int b, int c, int answer, int resultOrPlace) {
        String what = "run(0, " + a + ", " + b + ", " + c + ")";
        boolean done = answer == RegisterCompiler.DONE;
        due(what, x.run(0, a, b, c), answer);
        due(what + " result()", x.result(), done ? resultOrPlace : 0);
        due(what + " endedAt()", x.endedAt(), done ? -1 : resultOrPlace);
    }

    /** The value of an expression over v0, v1, v2, with every number of registers. */
    static void dueValue(String expression, int a, int b, int c, int want) {
        for (int registers = 0; registers <= 7; registers++) {
            RegisterCompiler x = new RegisterCompiler(registers);
            feed(x, "func 3 { return " + expression + " ; }");
            String what = expression + " with " + a + " " + b + " " + c;
            due("compile() of " + what, x.compile(), RegisterCompiler.OK);
            due("run of " + what, x.run(0, a, b, c), RegisterCompiler.DONE);
            due(what, x.result(), want);
        }
    }
}
