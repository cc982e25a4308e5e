/** Promise 5: place. */
public final class Promise05PlaceTest {
    public static void main(String[] args) {
        RegisterCompiler x = new RegisterCompiler(5);
        Check.due("place() before any compile()", x.place(), -1);
        Check.feed(x, "func 1 { f0 ( v0 ) ; ");
        Check.due("place() before any compile()", x.place(), -1);
        Check.due("compile() without an end", x.compile(), RegisterCompiler.SYNTAX);
        Check.due("place() is the number of tokens", x.place(), 8);
        Check.feed(x, "f0 (");
        Check.due("place() stays until the next compile()", x.place(), 8);
        Check.feed(x, ") ; }");
        Check.due("compile()", x.compile(), RegisterCompiler.COUNT);
        Check.due("place() of COUNT", x.place(), 8);
        Check.due("run", x.run(0, 0, 0, 0), RegisterCompiler.REFUSED);
        Check.due("place() after run", x.place(), 8);
        Check.due("wipe()", x.wipe(), 13);
        Check.feed(x, "func 0 { return 1 / 0 ; }");
        Check.due("compile()", x.compile(), RegisterCompiler.OK);
        Check.due("place() after OK", x.place(), -1);
        Check.due("run", x.run(0, 0, 0, 0), RegisterCompiler.DIVIDE);
        Check.due("place() after a run that ended badly", x.place(), -1);
        Check.feed(x, "func 0 { while ( f3 ( ) ) { } }");
        Check.due("compile()", x.compile(), RegisterCompiler.UNKNOWN);
        Check.due("place() of UNKNOWN", x.place(), 14);
        fullOfTokens();
        Check.finish();
    }

    private static void fullOfTokens() {
        RegisterCompiler x = Check.fed("func 0 { return");
        for (int i = 4; i < 120; i++) {
            x.token(4, 0);
        }
        Check.due("compile() of 120 tokens without an end", x.compile(), RegisterCompiler.SYNTAX);
        Check.due("place() of 120 tokens without an end", x.place(), 120);
    }
}
