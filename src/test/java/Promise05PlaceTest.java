/** Promise 5: place. */
public final class Promise05PlaceTest {
    public static void main(String[] args) {
        thereWasNone();
        afterOk();
        eachKindOfFault();
        theFirstAndTheLastPlace();
        theLatestCompile();
        onlyCompileChangesIt();
        Check.finish();
    }

    private static void thereWasNone() {
        Check.sentence("-1 if .. there was none");
        RegisterCompiler x = new RegisterCompiler(5);
        Check.due("place() of a new object", x.place(), -1);
        Check.feed(x, "func 1 { ; break ; f3 ( ) ;");
        Check.due("place() before any compile()", x.place(), -1);
        x.run(0, 0, 0, 0);
        x.store(0, 1);
        x.wipe();
        Check.due("place() before any compile()", x.place(), -1);
    }

    private static void afterOk() {
        Check.sentence("-1 if that answered OK");
        RegisterCompiler x = Check.compiled("func 0 { return 1 / 0 ; }");
        Check.due("place() after OK", x.place(), -1);
        Check.due("run", x.run(0, 0, 0, 0), RegisterCompiler.DIVIDE);
        Check.due("place() after a run that ended badly", x.place(), -1);
        for (String wrong : new String[] {"func", "func 0 { break ; }", "func 0 { f1 ( ) ; }", "func 0 { f0 ( 1 ) ; }"}) {
            Check.due("compile() that fails", Check.recompile(x, wrong) != RegisterCompiler.OK, true);
            Check.due("compile()", Check.recompile(x, "func 0 { }"), RegisterCompiler.OK);
            Check.due("place() after OK", x.place(), -1);
        }
    }

    private static void eachKindOfFault() {
        Check.sentence("The place of the latest compile");
        Check.dueCompile("func 0 { v0 = v1 @, v2 ; }", RegisterCompiler.SYNTAX);
        Check.dueCompile("func 0 { v0 = v1 ; @continue ; break ; }", RegisterCompiler.LOOP);
        Check.dueCompile("func 0 { v0 = v1 - @f2 ( ) ; }", RegisterCompiler.UNKNOWN);
        Check.dueCompile("func 0 { v0 = v1 - @f0 ( v0 ) ; }", RegisterCompiler.COUNT);
    }

    private static void theFirstAndTheLastPlace() {
        Check.sentence("their number if the end is missing");
        Check.dueCompile("@", RegisterCompiler.SYNTAX);
        Check.dueCompile("@{ }", RegisterCompiler.SYNTAX);
        RegisterCompiler x = Check.fed("func 0 { return");
        for (int i = 4; i < 120; i++) {
            x.token(4, 0);
        }
        Check.due("compile() of 120 tokens without an end", x.compile(), RegisterCompiler.SYNTAX);
        Check.due("place() of 120 tokens without an end", x.place(), 120);
        RegisterCompiler y = Check.fed("func 0 { return");
        for (int i = 4; i < 119; i++) {
            y.token(4, 0);
        }
        y.token(5, 0);
        Check.due("compile() of 120 tokens with a wrong one", y.compile(), RegisterCompiler.SYNTAX);
        Check.due("place() of the last of 120 tokens", y.place(), 119);
    }

    private static void theLatestCompile() {
        Check.sentence("The place of the latest compile");
        RegisterCompiler x = Check.fed("func 1 { f0 ( v0 ) ; ");
        Check.due("compile() without an end", x.compile(), RegisterCompiler.SYNTAX);
        Check.due("place()", x.place(), 8);
        Check.feed(x, "f0 ( v0 ) ; f0 ( ) ; }");
        Check.due("compile()", x.compile(), RegisterCompiler.COUNT);
        Check.due("place()", x.place(), 13);
        Check.due("compile()", Check.recompile(x, "func 1 { f0 ( f1 ( ) ) ; }"), RegisterCompiler.UNKNOWN);
        Check.due("place()", x.place(), 5);
        Check.due("compile()", Check.recompile(x, "func 1 { break ; }"), RegisterCompiler.LOOP);
        Check.due("place()", x.place(), 3);
        Check.due("compile()", Check.recompile(x, ""), RegisterCompiler.SYNTAX);
        Check.due("place()", x.place(), 0);
    }

    private static void onlyCompileChangesIt() {
        Check.sentence("The place of the latest compile");
        RegisterCompiler x = Check.fed("func 0 { break ; }");
        Check.due("compile()", x.compile(), RegisterCompiler.LOOP);
        Check.feed(x, "func 0 { ;");
        Check.due("place() after token", x.place(), 3);
        Check.due("run", x.run(0, 0, 0, 0), RegisterCompiler.REFUSED);
        Check.due("place() after run", x.place(), 3);
        x.wipe();
        Check.due("place() after wipe()", x.place(), 3);
        x.store(3, 9);
        Check.due("place() after store", x.place(), 3);
        Check.due("place() again", x.place(), 3);
    }
}
