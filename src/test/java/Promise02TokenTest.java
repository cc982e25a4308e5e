/** Promise 2: token. */
public final class Promise02TokenTest {
    private static final int[] FAR = {Integer.MIN_VALUE, -1, 42, 43, 1000, Integer.MAX_VALUE};

    public static void main(String[] args) {
        kindsAndValues();
        refusedTokensChangeNothing();
        atMost120();
        Check.finish();
    }

    private static void kindsAndValues() {
        RegisterCompiler x = new RegisterCompiler(2);
        int taken = 0;
        for (int kind = 0; kind <= 41; kind++) {
            boolean free = kind != 1 && kind != 2;
            Check.due("token(" + kind + ", 0)", x.token(kind, 0), true);
            Check.due("token(" + kind + ", min)", x.token(kind, Integer.MIN_VALUE), free);
            taken += free ? 2 : 1;
        }
        Check.due("wipe()", x.wipe(), taken);
        for (int value = -2; value <= 8; value++) {
            Check.due("VAR " + value, x.token(1, value), value >= 0 && value <= 5);
            Check.due("CALL " + value, x.token(2, value), value >= 0 && value <= 3);
            Check.due("NUM " + value, x.token(0, value), true);
            Check.due("m " + value, x.token(3, value), true);
        }
        Check.due("VAR max", x.token(1, Integer.MAX_VALUE), false);
        Check.due("CALL max", x.token(2, Integer.MAX_VALUE), false);
        for (int kind : FAR) {
            Check.due("token(" + kind + ", 0)", x.token(kind, 0), false);
        }
        Check.due("wipe()", x.wipe(), 6 + 4 + 11 + 11);
    }

    private static void refusedTokensChangeNothing() {
        RegisterCompiler x = new RegisterCompiler(1);
        Check.feed(x, "func 1 { return");
        for (int kind : FAR) {
            x.token(kind, 1);
        }
        x.token(1, 6);
        x.token(1, -1);
        x.token(2, 4);
        x.token(2, -1);
        Check.feed(x, "v0 + 2147483647 ; }");
        Check.due("compile()", x.compile(), RegisterCompiler.OK);
        Check.dueRun(x, 1, 0, 0, RegisterCompiler.DONE, Integer.MIN_VALUE);
    }

    private static void atMost120() {
        RegisterCompiler x = new RegisterCompiler(6);
        Check.feed(x, "func 0 { return");
        for (int i = 4; i < 117; i++) {
            Check.due("token " + i, x.token(32, i), true);
        }
        Check.feed(x, "0 ; }");
        for (int kind = 0; kind <= 41; kind++) {
            Check.due("token 120 of kind " + kind, x.token(kind, 0), false);
        }
        Check.due("compile() of 120 tokens", x.compile(), RegisterCompiler.OK);
        Check.dueRun(x, 0, 0, 0, RegisterCompiler.DONE, 1);
        Check.due("wipe() of 120 tokens", x.wipe(), 120);
        Check.due("token after wipe()", x.token(41, 0), true);
        Check.due("wipe()", x.wipe(), 1);
    }
}
