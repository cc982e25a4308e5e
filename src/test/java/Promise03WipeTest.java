/** Promise 3: wipe. */
public final class Promise03WipeTest {
    public static void main(String[] args) {
        RegisterCompiler x = new RegisterCompiler(2);
        Check.due("wipe() of nothing", x.wipe(), 0);
        Check.feed(x, "func 1 { print 5 ; m [ 1 ] = v0 ; return v0 * v0 ; }");
        Check.due("compile()", x.compile(), RegisterCompiler.OK);
        Check.dueRun(x, 3, 0, 0, RegisterCompiler.DONE, 9);

        Check.due("wipe()", x.wipe(), 19);
        Check.due("wipe() again", x.wipe(), 0);
        Check.due("place() after wipe()", x.place(), -1);
        Check.due("result() after wipe()", x.result(), 9);
        Check.due("printed() after wipe()", x.printed(), 1);
        Check.due("memory(1) after wipe()", x.memory(1), 3);
        Check.dueRun(x, 7, 0, 0, RegisterCompiler.DONE, 49);

        // Other tokens do not touch what was compiled before they are compiled themselves.
        Check.feed(x, "func 0 { return 1 / 0 ; } func 0 { }");
        Check.dueRun(x, 8, 0, 0, RegisterCompiler.DONE, 64);
        Check.due("run(1, ..) before compile()", x.run(1, 0, 0, 0), RegisterCompiler.REFUSED);
        Check.due("compile()", x.compile(), RegisterCompiler.OK);
        Check.dueRun(x, 8, 0, 0, RegisterCompiler.DIVIDE, 5);

        Check.due("wipe()", x.wipe(), 13);
        Check.due("compile() of nothing", x.compile(), RegisterCompiler.SYNTAX);
        Check.due("place() of nothing", x.place(), 0);
        Check.due("run after compile() of nothing", x.run(0, 1, 1, 1), RegisterCompiler.REFUSED);
        Check.due("wipe() keeps place()", x.wipe() + x.place(), 0);
        wipeKeepsThePlaceOfAFault();
        Check.finish();
    }

    private static void wipeKeepsThePlaceOfAFault() {
        RegisterCompiler x = Check.fed("func 0 { break ; }");
        Check.due("compile()", x.compile(), RegisterCompiler.LOOP);
        Check.due("wipe()", x.wipe(), 6);
        Check.due("place()", x.place(), 3);
    }
}
