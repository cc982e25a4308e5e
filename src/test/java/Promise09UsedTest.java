/** Promise 9: used. */
public final class Promise09UsedTest {
    private static final int DONE = RegisterCompiler.DONE;
    private static final int STOPPED = RegisterCompiler.STOPPED;

    public static void main(String[] args) {
        thereWasNone();
        whiles();
        calls();
        afterEveryFault();
        exactly120();
        afterStoppedAtAWhile();
        afterStoppedAtACall();
        aCallThatIsTooDeepUsesNoTick();
        refusedRunsDoNotCount();
        everyRunHas120();
        Check.finish();
    }

    private static void thereWasNone() {
        Check.sentence("0 if there was none");
        RegisterCompiler x = new RegisterCompiler(3);
        Check.due("used() of a new object", x.used(), 0);
        Check.due("run", x.run(0, 0, 0, 0), RegisterCompiler.REFUSED);
        Check.due("used() after REFUSED", x.used(), 0);
        Check.feed(x, "func 0 { }");
        Check.due("compile()", x.compile(), RegisterCompiler.OK);
        Check.due("used() after compile()", x.used(), 0);
    }

    private static void whiles() {
        Check.sentence("while uses up one TICK before each evaluation of its condition");
        RegisterCompiler x = Check.compiled("func 1 { while ( v0 > 0 ) { v0 = v0 - 1 ;"
                + " if ( v0 == 5 ) break ; if ( v0 & 1 ) continue ; } }");
        int[] due = {1, 2, 3, 4, 5, 6, 1, 2, 3};
        for (int n = 0; n < due.length; n++) {
            Check.dueRun(x, n, 0, 0, DONE, 0);
            Check.due("used() for " + n, x.used(), due[n]);
        }
    }

    private static void calls() {
        Check.sentence("then one TICK is used up");
        RegisterCompiler x = Check.compiled("func 2 { return f1 ( f1 ( v0 ) ) + f1 ( 1 ) / v1 ; } func 1 { return v0 + 1 ; }");
        Check.dueRun(x, 4, 1, 0, DONE, 8);
        Check.due("used()", x.used(), 3);
        Check.due("run(1, ..)", x.run(1, 0, 0, 0), DONE);
        Check.due("used() without a call", x.used(), 0);
    }

    private static void afterEveryFault() {
        Check.sentence("Of the same run: the TICKS used up");
        RegisterCompiler x = Check.compiled("func 2 { f1 ( ) ; f1 ( ) ; if ( v0 == 0 ) return 1 / v1 ;"
                + " if ( v0 == 1 ) return m [ v1 ] ; f0 ( v0 , v1 ) ; }"
                + " func 0 { while ( 0 ) { } }");
        Check.due("run", x.run(0, 0, 0, 0), RegisterCompiler.DIVIDE);
        Check.due("used() after DIVIDE", x.used(), 4);
        Check.due("run", x.run(0, 1, -1, 0), RegisterCompiler.INDEX);
        Check.due("used() after INDEX", x.used(), 4);
        Check.due("run", x.run(0, 2, 0, 0), RegisterCompiler.DEEP);
        Check.due("used() after DEEP", x.used(), 7 * 5);
    }

    private static void exactly120() {
        Check.sentence("A run has 120 TICKS");
        String loop = "func 1 { while ( v0 > 0 ) v0 = v0 - 1 ; return 6 ; }";
        RegisterCompiler x = Check.compiled(loop);
        for (int n : new int[] {0, 1, 117, 118, 119}) {
            Check.dueRun(x, n, 0, 0, DONE, 6);
            Check.due("used() for " + n, x.used(), n + 1);
        }
        RegisterCompiler y = Check.compiled("func 1 { while ( v0 > 0 ) v0 = v0 - 1 ; return f1 ( ) ; } func 0 { return 7 ; }");
        Check.dueRun(y, 118, 0, 0, DONE, 7);
        Check.due("used() with the last tick for a CALL", y.used(), 120);
    }

    private static void afterStoppedAtAWhile() {
        Check.sentence("(120 after STOPPED)");
        RegisterCompiler x = Check.compiled("func 1 { while ( v0 > 0 ) { v0 = v0 - 1 ; m [ 0 ] = v0 ; } }");
        for (int n : new int[] {120, 121, 1000, Check.MAX}) {
            Check.dueRun(x, n, 0, 0, STOPPED, 3);
            Check.due("used() after STOPPED at a while", x.used(), 120);
            Check.due("memory(0)", x.memory(0), n - 120);
        }
    }

    private static void afterStoppedAtACall() {
        Check.sentence("(120 after STOPPED)");
        RegisterCompiler x = Check.compiled("func 1 { while ( v0 > 0 ) v0 = v0 - 1 ; return f1 ( ) ; } func 0 { m [ 1 ] = m [ 1 ] + 1 ; }");
        Check.dueRun(x, 119, 0, 0, STOPPED, 16);
        Check.due("used() after STOPPED at a CALL", x.used(), 120);
        Check.due("the function was not entered", x.memory(1), 0);
        Check.dueRun(x, 118, 0, 0, DONE, 0);
        Check.due("the function was entered", x.memory(1), 1);
    }

    private static void aCallThatIsTooDeepUsesNoTick() {
        Check.sentence("if 8 calls are active .. DEEP at the CALL; then one TICK is used up");
        RegisterCompiler x = Check.compiled(
                "func 1 { while ( v0 > 0 ) v0 = v0 - 1 ; return f1 ( ) ; } func 0 { return f1 ( ) ; }");
        Check.dueRun(x, 0, 0, 0, RegisterCompiler.DEEP, 25);
        Check.due("used() after DEEP", x.used(), 8);
        Check.dueRun(x, 112, 0, 0, RegisterCompiler.DEEP, 25);
        Check.due("used() after DEEP with the last tick", x.used(), 120);
        Check.dueRun(x, 113, 0, 0, STOPPED, 25);
        Check.due("used() after STOPPED", x.used(), 120);
    }

    private static void refusedRunsDoNotCount() {
        Check.sentence("Of the same run");
        RegisterCompiler x = Check.compiled("func 1 { while ( v0 > 0 ) v0 = v0 - 1 ; }");
        Check.dueRun(x, 5, 0, 0, DONE, 0);
        Check.due("run(1, ..)", x.run(1, 0, 0, 0), RegisterCompiler.REFUSED);
        Check.due("used() after REFUSED", x.used(), 6);
        x.wipe();
        Check.due("compile()", x.compile(), RegisterCompiler.SYNTAX);
        Check.due("run", x.run(0, 0, 0, 0), RegisterCompiler.REFUSED);
        Check.due("used() after REFUSED", x.used(), 6);
    }

    private static void everyRunHas120() {
        Check.sentence("A run has 120 TICKS");
        RegisterCompiler x = Check.compiled("func 1 { while ( v0 > 0 ) v0 = v0 - 1 ; return 6 ; }");
        for (int again = 0; again < 20; again++) {
            Check.dueRun(x, 119, 0, 0, DONE, 6);
            Check.due("used()", x.used(), 120);
            Check.dueRun(x, 120, 0, 0, STOPPED, 3);
            Check.due("used()", x.used(), 120);
        }
    }
}
