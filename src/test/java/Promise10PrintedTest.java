/** Promise 10: printed. */
public final class Promise10PrintedTest {
    private static final int DONE = RegisterCompiler.DONE;

    public static void main(String[] args) {
        thereWasNone();
        howMany();
        moreThanCanBeRead();
        untilTheFault();
        refusedRunsDoNotCount();
        nothingElseChangesIt();
        Check.finish();
    }

    private static void thereWasNone() {
        Check.sentence("0 if there was none");
        RegisterCompiler x = new RegisterCompiler(2);
        Check.due("printed() of a new object", x.printed(), 0);
        Check.due("run", x.run(0, 0, 0, 0), RegisterCompiler.REFUSED);
        Check.due("printed() after REFUSED", x.printed(), 0);
        Check.feed(x, "func 0 { print 4 ; }");
        Check.due("compile()", x.compile(), RegisterCompiler.OK);
        Check.due("printed() before any run", x.printed(), 0);
    }

    private static void howMany() {
        Check.sentence("how many values it printed");
        RegisterCompiler x = Check.compiled("func 1 { while ( v0 > 0 ) { print 0 ; v0 = v0 - 1 ; } }");
        for (int count : new int[] {0, 1, 2, 23, 24, 25, 26, 119, 3, 0}) {
            Check.dueRun(x, count, 0, 0, DONE, 0);
            Check.due("printed() of " + count, x.printed(), count);
        }
        RegisterCompiler y = Check.dueResult("func 0 { print f1 ( 3 ) ; print 9 ; } func 1 { print v0 ; return 8 ; }", 0, 0, 0, 0);
        Check.dueOutput(y, 3, 8, 9);
    }

    private static void moreThanCanBeRead() {
        Check.sentence("how many values it printed");
        String program = "func 0 { while ( 1 ) { " + "print 1 ; ".repeat(36) + "} }";
        RegisterCompiler x = Check.compiled(program);
        Check.dueRun(x, 0, 0, 0, RegisterCompiler.STOPPED, 3);
        Check.due("printed() of very many", x.printed(), 36 * 120);
        Check.due("output(23)", x.output(23), 1);
    }

    private static void untilTheFault() {
        Check.sentence("What was done before the end of a run stays done (.. what was printed)");
        RegisterCompiler x = Check.compiled("func 1 { while ( v0 > 0 ) { print v0 ; v0 = v0 - 1 ; print f1 ( ) / v0 ; } }"
                + " func 0 { print 1 ; return 12 ; }");
        Check.dueRun(x, 3, 0, 0, RegisterCompiler.DIVIDE, 23);
        Check.dueOutput(x, 3, 1, 6, 2, 1, 12, 1, 1);
        Check.dueRun(x, 1, 0, 0, RegisterCompiler.DIVIDE, 23);
        Check.dueOutput(x, 1, 1);
    }

    private static void refusedRunsDoNotCount() {
        Check.sentence("Of the same run");
        RegisterCompiler x = Check.compiled("func 1 { print v0 ; print v0 ; return 1 / v0 ; }");
        Check.dueRun(x, 6, 0, 0, DONE, 0);
        Check.due("run(7, ..)", x.run(7, 0, 0, 0), RegisterCompiler.REFUSED);
        Check.dueOutput(x, 6, 6);
        Check.dueRun(x, 0, 0, 0, RegisterCompiler.DIVIDE, 11);
        Check.due("run(-1, ..)", x.run(-1, 0, 0, 0), RegisterCompiler.REFUSED);
        Check.dueOutput(x, 0, 0);
    }

    private static void nothingElseChangesIt() {
        Check.sentence("Of the same run");
        RegisterCompiler x = Check.dueResult("func 1 { print v0 ; print v0 ; }", 6, 0, 0, 0);
        x.store(0, 1);
        x.wipe();
        x.compile();
        Check.dueOutput(x, 6, 6);
        Check.recompile(x, "func 0 { print 1 ; }");
        Check.dueOutput(x, 6, 6);
    }
}
