/** Promise 7: result. */
public final class Promise07ResultTest {
    public static void main(String[] args) {
        RegisterCompiler x = new RegisterCompiler(1);
        Check.due("result() of a new object", x.result(), 0);
        Check.feed(x, "func 2 { if ( v0 ) return v0 / v1 ; v3 = 4 ; }");
        Check.due("result() before any run", x.result(), 0);
        x.compile();
        Check.due("result() after compile()", x.result(), 0);
        Check.dueRun(x, 100, -7, 0, RegisterCompiler.DONE, -14);
        Check.due("run(1, ..)", x.run(1, 5, 5, 5), RegisterCompiler.REFUSED);
        Check.due("result() after REFUSED", x.result(), -14);
        Check.dueRun(x, 100, 0, 0, RegisterCompiler.DIVIDE, 9);
        Check.dueRun(x, Integer.MIN_VALUE, -1, 0, RegisterCompiler.DONE, Integer.MIN_VALUE);
        Check.dueRun(x, 0, 9, 0, RegisterCompiler.DONE, 0);
        x.run(0, 9, 3, 0);
        x.wipe();
        x.compile();
        Check.due("result() after a compile() that failed", x.result(), 3);
        everyReturnEndsItsFunction();
        Check.finish();
    }

    private static void everyReturnEndsItsFunction() {
        RegisterCompiler x = Check.compiled("func 1 { while ( 1 ) { while ( 1 ) { if ( v0 ) { return f1 ( v0 ) ; } return 2 ; } } }"
                + " func 1 { return v0 + 5 ; print 1 ; return 6 ; }");
        Check.dueRun(x, 0, 0, 0, RegisterCompiler.DONE, 2);
        Check.dueRun(x, 8, 0, 0, RegisterCompiler.DONE, 13);
        Check.due("printed()", x.printed(), 0);
    }
}
