/** Promise 9: used. */
public final class Promise09UsedTest {
    public static void main(String[] args) {
        newObject();
        whiles();
        calls();
        theLastTick();
        aCallThatIsTooDeepUsesNoTick();
        Check.finish();
    }

    private static void newObject() {
        RegisterCompiler x = new RegisterCompiler(3);
        Check.due("used() of a new object", x.used(), 0);
        x.run(0, 0, 0, 0);
        Check.due("used() after REFUSED", x.used(), 0);
    }

    private static void whiles() {
        RegisterCompiler x = Check.compiled("func 1 { while ( v0 > 0 ) { v0 = v0 - 1 ; if ( v0 == 5 ) break ; if ( v0 & 1 ) continue ; } }");
        int[] due = {1, 2, 3, 4, 5, 6, 1, 2, 3};
        for (int n = 0; n < due.length; n++) {
            Check.dueRun(x, n, 0, 0, RegisterCompiler.DONE, 0);
            Check.due("used() for " + n, x.used(), due[n]);
        }
        Check.due("run(1, ..)", x.run(1, 0, 0, 0), RegisterCompiler.REFUSED);
        Check.due("used() after REFUSED", x.used(), 3);
    }

    private static void calls() {
        RegisterCompiler x = Check.compiled("func 2 { return f1 ( f1 ( v0 ) ) + f1 ( 1 ) / v1 ; } func 1 { return v0 + 1 ; }");
        Check.dueRun(x, 4, 1, 0, RegisterCompiler.DONE, 8);
        Check.due("used()", x.used(), 3);
        Check.dueRun(x, 4, 0, 0, RegisterCompiler.DIVIDE, 16);
        Check.due("used() after DIVIDE", x.used(), 3);
    }

    private static void theLastTick() {
        RegisterCompiler x = Check.compiled("func 1 { while ( v0 > 0 ) { v0 = v0 - 1 ; m [ 0 ] = v0 ; } return f1 ( ) ; } func 0 { return 6 ; }");
        Check.dueRun(x, 118, 0, 0, RegisterCompiler.DONE, 6);
        Check.due("used() with the last tick", x.used(), 120);
        Check.dueRun(x, 119, 0, 0, RegisterCompiler.STOPPED, 25);
        Check.due("used() after STOPPED at a CALL", x.used(), 120);
        Check.dueRun(x, 120, 0, 0, RegisterCompiler.STOPPED, 3);
        Check.due("used() after STOPPED at a while", x.used(), 120);
        Check.due("memory(0)", x.memory(0), 0);
        Check.dueRun(x, 1000, 0, 0, RegisterCompiler.STOPPED, 3);
        Check.due("memory(0)", x.memory(0), 880);
    }

    private static void aCallThatIsTooDeepUsesNoTick() {
        RegisterCompiler x = Check.compiled(
                "func 1 { while ( v0 > 0 ) v0 = v0 - 1 ; return f1 ( ) ; } func 0 { return f1 ( ) ; }");
        Check.dueRun(x, 0, 0, 0, RegisterCompiler.DEEP, 25);
        Check.due("used() after DEEP", x.used(), 8);
        Check.dueRun(x, 112, 0, 0, RegisterCompiler.DEEP, 25);
        Check.due("used() after DEEP with the last tick", x.used(), 120);
        Check.dueRun(x, 113, 0, 0, RegisterCompiler.STOPPED, 25);
        Check.due("used() after STOPPED", x.used(), 120);
    }
}
