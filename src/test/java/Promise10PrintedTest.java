/** Promise 10: printed. */
public final class Promise10PrintedTest {
    public static void main(String[] args) {
        RegisterCompiler x = new RegisterCompiler(2);
        Check.due("printed() of a new object", x.printed(), 0);
        Check.feed(x, "func 1 { while ( v0 > 0 ) { print v0 ; v0 = v0 - 1 ; print f1 ( ) / v0 ; } } func 0 { print 1 ; return 12 ; }");
        x.compile();
        Check.due("printed() before any run", x.printed(), 0);
        Check.dueRun(x, 0, 0, 0, RegisterCompiler.DONE, 0);
        Check.due("printed()", x.printed(), 0);
        Check.dueRun(x, 3, 0, 0, RegisterCompiler.DIVIDE, 23);
        Check.due("printed() before the fault", x.printed(), 8);
        Check.due("run(7, ..)", x.run(7, 0, 0, 0), RegisterCompiler.REFUSED);
        Check.due("printed() after REFUSED", x.printed(), 8);
        Check.dueRun(x, 1, 0, 0, RegisterCompiler.DIVIDE, 23);
        Check.due("printed() forgets the run before", x.printed(), 2);
        moreThanCanBeRead();
        Check.finish();
    }

    private static void moreThanCanBeRead() {
        StringBuilder prints = new StringBuilder();
        for (int i = 0; i < 36; i++) {
            prints.append("print 1 ; ");
        }
        RegisterCompiler x = Check.compiled("func 0 { while ( 1 ) { " + prints + "} }");
        Check.dueRun(x, 0, 0, 0, RegisterCompiler.STOPPED, 3);
        Check.due("printed() of very many", x.printed(), 36 * 120);
    }
}
