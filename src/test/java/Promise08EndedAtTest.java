/** Promise 8: endedAt. */
public final class Promise08EndedAtTest {
    public static void main(String[] args) {
        RegisterCompiler x = new RegisterCompiler(4);
        Check.due("endedAt() of a new object", x.endedAt(), -1);
        Check.feed(x, "func 2 { v2 = m [ v0 ] ; m [ v1 ] = 10 % v0 ; f0 ( v0 , v1 ) ; }");
        x.compile();
        Check.due("endedAt() before any run", x.endedAt(), -1);
        Check.dueRun(x, 16, 1, 0, RegisterCompiler.INDEX, 5);
        Check.due("run(-1, ..)", x.run(-1, 0, 0, 0), RegisterCompiler.REFUSED);
        Check.due("endedAt() after REFUSED", x.endedAt(), 5);
        Check.dueRun(x, -1, 1, 0, RegisterCompiler.INDEX, 5);
        Check.dueRun(x, 0, 99, 0, RegisterCompiler.DIVIDE, 16);
        Check.dueRun(x, 1, 99, 0, RegisterCompiler.INDEX, 10);
        Check.dueRun(x, 1, 1, 0, RegisterCompiler.DEEP, 19);

        // The places are those of the compiled program, whatever the tokens are by now.
        Check.due("wipe()", x.wipe(), 27);
        Check.dueRun(x, 0, 0, 0, RegisterCompiler.DIVIDE, 16);
        Check.feed(x, "func 1 { while ( v0 ) { } return 3 ; }");
        Check.due("compile()", x.compile(), RegisterCompiler.OK);
        Check.due("endedAt() after compile()", x.endedAt(), 16);
        Check.dueRun(x, 1, 0, 0, RegisterCompiler.STOPPED, 3);
        Check.dueRun(x, 0, 0, 0, RegisterCompiler.DONE, 3);
        faultsInCalledFunctions();
        Check.finish();
    }

    private static void faultsInCalledFunctions() {
        RegisterCompiler x = Check.compiled("func 1 { return f1 ( v0 ) ; } func 1 { return m [ 5 / v0 ] ; }");
        Check.dueRun(x, 1, 0, 0, RegisterCompiler.DONE, 0);
        Check.dueRun(x, 0, 0, 0, RegisterCompiler.DIVIDE, 17);
        Check.dueRun(x, -1, 0, 0, RegisterCompiler.INDEX, 14);
    }
}
