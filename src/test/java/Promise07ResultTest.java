/** Promise 7: result. */
public final class Promise07ResultTest {
    private static final int DONE = RegisterCompiler.DONE;

    public static void main(String[] args) {
        thereWasNone();
        theValueOfTheFunction();
        theEndIsReached();
        everyReturnEndsItsFunction();
        zeroAfterEveryFault();
        refusedRunsDoNotCount();
        nothingElseChangesIt();
        Check.finish();
    }

    private static void thereWasNone() {
        Check.sentence("0 if there was none");
        RegisterCompiler x = new RegisterCompiler(1);
        Check.due("result() of a new object", x.result(), 0);
        Check.due("run", x.run(0, 5, 5, 5), RegisterCompiler.REFUSED);
        Check.due("result() after REFUSED", x.result(), 0);
        Check.feed(x, "func 0 { return 8 ; }");
        Check.due("compile()", x.compile(), RegisterCompiler.OK);
        Check.due("result() after compile()", x.result(), 0);
    }

    private static void theValueOfTheFunction() {
        Check.sentence("after DONE the function's value");
        RegisterCompiler x = Check.compiled("func 1 { return v0 ; } func 1 { return f0 ( v0 ) - 1 ; }");
        for (int value : new int[] {Check.MIN, -1, 0, 1, Check.MAX}) {
            Check.dueRun(x, value, 0, 0, DONE, value);
            Check.due("run(1, ..)", x.run(1, value, 0, 0), DONE);
            Check.due("result()", x.result(), value - 1);
        }
    }

    private static void theEndIsReached() {
        Check.sentence("0 if its end is reached");
        Check.dueResult("func 0 { }", 5, 5, 5, 0);
        Check.dueResult("func 1 { v0 = 7 ; v1 = v0 ; }", 5, 5, 5, 0);
        Check.dueResult("func 1 { f1 ( ) ; } func 0 { return 9 ; }", 5, 5, 5, 0);
        RegisterCompiler x = Check.compiled("func 1 { if ( v0 ) return 6 ; }");
        Check.dueRun(x, 1, 0, 0, DONE, 6);
        Check.dueRun(x, 0, 0, 0, DONE, 0);
    }

    private static void everyReturnEndsItsFunction() {
        Check.sentence("its value is that of the return");
        RegisterCompiler x = Check.compiled("func 1 { while ( 1 ) { while ( 1 ) { if ( v0 ) { return f1 ( v0 ) ; } return 2 ; } } }"
                + " func 1 { return v0 + 5 ; print 1 ; return 6 ; }");
        Check.dueRun(x, 0, 0, 0, DONE, 2);
        Check.dueRun(x, 8, 0, 0, DONE, 13);
        Check.due("printed()", x.printed(), 0);
    }

    private static void zeroAfterEveryFault() {
        Check.sentence("else 0");
        RegisterCompiler x = Check.compiled("func 1 { if ( v0 == 1 ) return 3 + 1 / ( v0 - 1 ) ; if ( v0 == 2 ) return 4 + m [ 0 - 1 ] ;"
                + " if ( v0 == 3 ) return 5 + f0 ( 3 ) ; while ( v0 > 3 ) m [ 0 ] = v0 ; return 90 ; }");
        int[] answers = {DONE, RegisterCompiler.DIVIDE, RegisterCompiler.INDEX, RegisterCompiler.DEEP, RegisterCompiler.STOPPED};
        for (int n = 1; n < answers.length; n++) {
            Check.dueRun(x, 0, 0, 0, DONE, 90);
            Check.due("run(0, " + n + ", ..)", x.run(0, n, 0, 0), answers[n]);
            Check.due("result() after a fault", x.result(), 0);
        }
    }

    private static void refusedRunsDoNotCount() {
        Check.sentence("Of the latest run that was not REFUSED");
        RegisterCompiler x = Check.compiled("func 1 { return 10 / v0 ; }");
        Check.dueRun(x, 2, 0, 0, DONE, 5);
        Check.due("run(1, ..)", x.run(1, 5, 5, 5), RegisterCompiler.REFUSED);
        Check.due("result() after REFUSED", x.result(), 5);
        Check.dueRun(x, 1, 0, 0, DONE, 10);
        Check.dueRun(x, 0, 0, 0, RegisterCompiler.DIVIDE, 5);
        Check.due("run(-1, ..)", x.run(-1, 5, 5, 5), RegisterCompiler.REFUSED);
        Check.due("result() after REFUSED", x.result(), 0);
    }

    private static void nothingElseChangesIt() {
        Check.sentence("Of the latest run that was not REFUSED");
        RegisterCompiler x = Check.dueResult("func 1 { return 10 / v0 ; }", 3, 0, 0, 3);
        x.store(0, 4);
        x.wipe();
        x.compile();
        Check.due("result() after a compile() that failed", x.result(), 3);
        Check.recompile(x, "func 0 { return 8 ; }");
        Check.due("result() after compile()", x.result(), 3);
    }
}
