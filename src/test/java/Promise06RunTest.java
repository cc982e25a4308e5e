/** Promise 6: run. */
public final class Promise06RunTest {
    private static final int DONE = RegisterCompiler.DONE;
    private static final int REFUSED = RegisterCompiler.REFUSED;

    public static void main(String[] args) {
        argumentsAndFunctions();
        refusedRunsChangeNothing();
        theOutermostCallIsActiveButUsesNoTick();
        everyRunStartsAnew();
        Check.finish();
    }

    private static void argumentsAndFunctions() {
        RegisterCompiler x = Check.compiled(
                "func 0 { return v0 | v1 | v2 | v3 | v4 | v5 ; } func 1 { return v0 + 10 * ( v1 | v2 | v3 | v4 | v5 ) ; }"
                + " func 2 { return v0 - v1 + 10 * ( v2 | v3 | v4 | v5 ) ; }"
                + " func 3 { return v0 - v1 * v2 + ( v3 | v4 | v5 ) ; }");
        int[] due = {0, 7, 7 - 3, 7 - 3 * 5};
        for (int round = 0; round < 2; round++) {
            for (int f = 0; f < 4; f++) {
                Check.due("run(" + f + ", 7, 3, 5)", x.run(f, 7, 3, 5), DONE);
                Check.due("run(" + f + ", 7, 3, 5) result()", x.result(), due[f]);
            }
        }
    }

    private static void refusedRunsChangeNothing() {
        RegisterCompiler x = Check.compiled("func 1 { print 11 ; print 12 ; f1 ( ) ; m [ 4 ] = v0 ; return 9 ; } func 0 { }");
        Check.dueRun(x, 21, 0, 0, DONE, 9);
        for (int f : new int[] {Integer.MIN_VALUE, -1, 2, 3, 4, 5, Integer.MAX_VALUE}) {
            Check.due("run(" + f + ", ..)", x.run(f, 1, 1, 1), REFUSED);
            Check.due("result()", x.result(), 9);
            Check.due("endedAt()", x.endedAt(), -1);
            Check.due("used()", x.used(), 1);
            Check.due("printed()", x.printed(), 2);
            Check.due("output(1)", x.output(1), 12);
            Check.due("memory(4)", x.memory(4), 21);
        }
        Check.dueRun(x, 22, 0, 0, DONE, 9);
    }

    private static void theOutermostCallIsActiveButUsesNoTick() {
        RegisterCompiler x = Check.compiled("func 1 { if ( v0 ) return f0 ( v0 - 1 ) + 1 ; print v0 ; }");
        Check.dueRun(x, 0, 0, 0, DONE, 0);
        Check.due("used()", x.used(), 0);
        Check.dueRun(x, 7, 0, 0, DONE, 7);
        Check.due("used()", x.used(), 7);
        Check.due("printed()", x.printed(), 1);
        Check.dueRun(x, 8, 0, 0, RegisterCompiler.DEEP, 8);
        Check.due("used()", x.used(), 7);
        Check.due("printed() is forgotten", x.printed(), 0);
        Check.due("output(0) is forgotten", x.output(0), 0);
    }

    private static void everyRunStartsAnew() {
        RegisterCompiler x = Check.compiled("func 1 { v5 = v5 + 1 ; v1 = v1 + 1 ; m [ 0 ] = m [ 0 ] + 1 ;"
                + " print v5 + v1 ; while ( v0 ) v5 = v5 + 1 ; return v5 ; }");
        Check.dueRun(x, 0, 5, 5, DONE, 1);
        Check.dueRun(x, 1, 5, 5, RegisterCompiler.STOPPED, 32);
        Check.dueRun(x, 0, 5, 5, DONE, 1);
        Check.due("used()", x.used(), 1);
        Check.due("printed()", x.printed(), 1);
        Check.due("output(0)", x.output(0), 2);
        Check.due("m stays over the runs", x.memory(0), 3);
    }
}
