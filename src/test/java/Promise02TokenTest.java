/** Promise 2: token. */
public final class Promise02TokenTest {
    private static final int MIN = Check.MIN;
    private static final int MAX = Check.MAX;

    public static void main(String[] args) {
        appends();
        kindsOutside();
        variablesOutside();
        callsOutside();
        otherValuesAreFree();
        thereAre120Tokens();
        fullAgainAfterWipe();
        fullStaysFullAfterCompile();
        refusedTokensChangeNoToken();
        refusedTokensChangeNothingElse();
        Check.finish();
    }

    private static void appends() {
        Check.sentence("Appends a token");
        RegisterCompiler x = new RegisterCompiler(2);
        for (int kind = 0; kind <= 41; kind++) {
            Check.due("token(" + kind + ", 0)", x.token(kind, 0), true);
        }
        Check.due("wipe()", x.wipe(), 42);
        Check.feed(x, "func 1 { return v0 - 3 ;");
        Check.due("compile()", x.compile(), RegisterCompiler.SYNTAX);
        Check.due("place()", x.place(), 8);
        Check.feed(x, "}");
        Check.due("compile() with one token more", x.compile(), RegisterCompiler.OK);
        Check.dueRun(x, 1, 0, 0, RegisterCompiler.DONE, -2);
    }

    private static void kindsOutside() {
        Check.sentence("if kind is outside 0..41");
        for (int kind : new int[] {MIN, MIN + 1, -42, -2, -1, 42, 43, 50, 64, 100, 256, 65536, MAX - 1, MAX}) {
            RegisterCompiler x = new RegisterCompiler(2);
            for (int value = -1; value <= 6; value++) {
                Check.due("token(" + kind + ", " + value + ")", x.token(kind, value), false);
            }
            Check.due("wipe()", x.wipe(), 0);
        }
        RegisterCompiler x = new RegisterCompiler(2);
        Check.due("token(0, 0)", x.token(0, 0), true);
        Check.due("token(41, 0)", x.token(41, 0), true);
        Check.due("wipe()", x.wipe(), 2);
    }

    private static void variablesOutside() {
        Check.sentence("a VAR's value outside 0..5");
        RegisterCompiler x = new RegisterCompiler(2);
        for (int value : new int[] {MIN, -6, -1, 6, 7, 16, 256, MAX}) {
            Check.due("VAR " + value, x.token(1, value), false);
        }
        Check.due("wipe()", x.wipe(), 0);
        for (int value = 0; value <= 5; value++) {
            Check.due("VAR " + value, x.token(1, value), true);
        }
        Check.due("wipe()", x.wipe(), 6);
    }

    private static void callsOutside() {
        Check.sentence("a CALL's outside 0..3");
        RegisterCompiler x = new RegisterCompiler(2);
        for (int value : new int[] {MIN, -4, -1, 4, 5, 6, 256, MAX}) {
            Check.due("CALL " + value, x.token(2, value), false);
        }
        Check.due("wipe()", x.wipe(), 0);
        for (int value = 0; value <= 3; value++) {
            Check.due("CALL " + value, x.token(2, value), true);
        }
        Check.due("wipe()", x.wipe(), 4);
    }

    private static void otherValuesAreFree() {
        Check.sentence("value (looked at for 0, 1, 2 alone)");
        for (int value : new int[] {MIN, -1, 4, 6, 42, MAX}) {
            RegisterCompiler x = new RegisterCompiler(2);
            Check.due("NUM " + value, x.token(0, value), true);
            for (int kind = 3; kind <= 41; kind++) {
                Check.due("token(" + kind + ", " + value + ")", x.token(kind, value), true);
            }
            Check.due("wipe()", x.wipe(), 40);
        }
    }

    /** A program of 120 tokens whose last three are due for what it means. */
    private static void feedFull(RegisterCompiler x) {
        Check.feed(x, "func 0 { return");
        for (int i = 4; i < 117; i++) {
            Check.due("token " + i, x.token(33, i), true);
        }
        Check.feed(x, "5 ; }");
    }

    private static void thereAre120Tokens() {
        Check.sentence("or there are 120 tokens");
        RegisterCompiler x = new RegisterCompiler(6);
        feedFull(x);
        for (int kind = -1; kind <= 42; kind++) {
            Check.due("token 121 of kind " + kind, x.token(kind, 0), false);
        }
        Check.due("compile() of 120 tokens", x.compile(), RegisterCompiler.OK);
        Check.dueRun(x, 0, 0, 0, RegisterCompiler.DONE, ~5);
        Check.due("wipe() of 120 tokens", x.wipe(), 120);
    }

    private static void fullAgainAfterWipe() {
        Check.sentence("or there are 120 tokens");
        RegisterCompiler x = new RegisterCompiler(6);
        for (int i = 0; i < 119; i++) {
            x.token(i % 42, 0);
        }
        Check.due("wipe() of 119 tokens", x.wipe(), 119);
        feedFull(x);
        Check.due("token 121", x.token(41, 0), false);
        Check.due("wipe() of 120 tokens", x.wipe(), 120);
        Check.due("token after wipe()", x.token(41, 0), true);
        Check.due("wipe()", x.wipe(), 1);
    }

    private static void fullStaysFullAfterCompile() {
        Check.sentence("or there are 120 tokens");
        RegisterCompiler x = new RegisterCompiler(6);
        feedFull(x);
        Check.due("compile()", x.compile(), RegisterCompiler.OK);
        Check.due("token 121 after compile()", x.token(41, 0), false);
        Check.dueRun(x, 0, 0, 0, RegisterCompiler.DONE, ~5);
        Check.due("token 121 after run", x.token(41, 0), false);
        Check.due("compile() again", x.compile(), RegisterCompiler.OK);
    }

    private static void refuse(RegisterCompiler x) {
        int[][] refused = {{MIN, 0}, {-1, 1}, {42, 1}, {MAX, 0}, {1, -1}, {1, 6}, {1, MAX}, {2, -1}, {2, 4}, {2, MIN}};
        for (int[] token : refused) {
            Check.due("token(" + token[0] + ", " + token[1] + ")", x.token(token[0], token[1]), false);
        }
    }

    private static void refusedTokensChangeNoToken() {
        Check.sentence("False, changing nothing");
        RegisterCompiler x = new RegisterCompiler(1);
        refuse(x);
        Check.due("compile() of no tokens", x.compile(), RegisterCompiler.SYNTAX);
        Check.due("place() of no tokens", x.place(), 0);
        for (String word : Check.words("func 1 { return v0 + 2147483647 ; }")) {
            refuse(x);
            Check.feed(x, word);
        }
        refuse(x);
        Check.due("compile()", x.compile(), RegisterCompiler.OK);
        Check.dueRun(x, 1, 0, 0, RegisterCompiler.DONE, MIN);
        Check.due("wipe()", x.wipe(), 9);
    }

    private static void refusedTokensChangeNothingElse() {
        Check.sentence("False, changing nothing");
        RegisterCompiler x = Check.compiled("func 2 { print v0 ; m [ v1 ] = v0 ; f1 ( ) ; return v0 / v1 ; } func 0 { }");
        Check.dueRun(x, 6, 3, 0, RegisterCompiler.DONE, 2);
        refuse(x);
        Check.due("place()", x.place(), -1);
        Check.due("result()", x.result(), 2);
        Check.due("endedAt()", x.endedAt(), -1);
        Check.due("used()", x.used(), 1);
        Check.dueOutput(x, 6);
        Check.due("memory(3)", x.memory(3), 6);
        Check.dueRun(x, 8, 2, 0, RegisterCompiler.DONE, 4);
        Check.due("compile() in a spoilt program", Check.recompile(x, "func 0 { break ; }"), RegisterCompiler.LOOP);
        refuse(x);
        Check.due("place()", x.place(), 3);
        Check.due("run", x.run(0, 1, 1, 1), RegisterCompiler.REFUSED);
    }
}
