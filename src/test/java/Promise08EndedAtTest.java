/** Promise 8: endedAt. */
public final class Promise08EndedAtTest {
    private static final int DONE = RegisterCompiler.DONE;

    public static void main(String[] args) {
        thereWasNone();
        afterDone();
        thePlaceOfEachFault();
        faultsInCalledFunctions();
        theFirstAndTheLastPlaces();
        refusedRunsDoNotCount();
        placesOfTheCompiledProgram();
        Check.finish();
    }

    private static void thereWasNone() {
        Check.sentence("-1 .. if there was none");
        RegisterCompiler x = new RegisterCompiler(4);
        Check.due("endedAt() of a new object", x.endedAt(), -1);
        Check.due("run", x.run(0, 5, 5, 5), RegisterCompiler.REFUSED);
        Check.due("endedAt() after REFUSED", x.endedAt(), -1);
        Check.feed(x, "func 0 { break ; }");
        Check.due("compile()", x.compile(), RegisterCompiler.LOOP);
        Check.due("endedAt() after compile()", x.endedAt(), -1);
    }

    private static void afterDone() {
        Check.sentence("-1 after DONE");
        RegisterCompiler x = Check.compiled("func 1 { return 10 / v0 ; }");
        Check.dueRun(x, 1, 0, 0, DONE, 10);
        Check.dueRun(x, 0, 0, 0, RegisterCompiler.DIVIDE, 5);
        Check.dueRun(x, 1, 0, 0, DONE, 10);
    }

    private static void thePlaceOfEachFault() {
        Check.sentence("the place at which it ended other than by DONE");
        Check.dueFault("func 1 { v0 = 1 + 2 @/ v0 * 3 ; }", 0, 0, 0, RegisterCompiler.DIVIDE);
        Check.dueFault("func 1 { v0 = 1 + 2 @% v0 * 3 ; }", 0, 0, 0, RegisterCompiler.DIVIDE);
        Check.dueFault("func 1 { v0 = 1 + @m [ v0 ] ; }", 16, 0, 0, RegisterCompiler.INDEX);
        Check.dueFault("func 1 { @m [ v0 ] = 1 ; }", 16, 0, 0, RegisterCompiler.INDEX);
        Check.dueFault("func 1 { v0 = 1 + @f0 ( v0 ) ; }", 16, 0, 0, RegisterCompiler.DEEP);
        Check.dueFault("func 1 { v1 = 2 ; @while ( v0 ) v1 = 3 ; }", 16, 0, 0, RegisterCompiler.STOPPED);
        Check.dueFault("func 1 { while ( v1 < 59 ) { v1 = v1 + 1 ; f1 ( ) ; } f1 ( ) ; @f1 ( ) ; } func 0 { }",
                0, 0, 0, RegisterCompiler.STOPPED);
    }

    private static void faultsInCalledFunctions() {
        Check.sentence("the place at which it ended other than by DONE");
        RegisterCompiler x = Check.compiled("func 1 { return f1 ( v0 ) ; } func 1 { return m [ 5 / v0 ] ; }");
        Check.dueRun(x, 1, 0, 0, DONE, 0);
        Check.dueRun(x, 0, 0, 0, RegisterCompiler.DIVIDE, 17);
        Check.dueRun(x, -1, 0, 0, RegisterCompiler.INDEX, 14);
    }

    /** The first token at which a run can end, and late ones in programs of 119 and 120 tokens. */
    private static void theFirstAndTheLastPlaces() {
        Check.sentence("the place at which it ended other than by DONE");
        Check.dueFault("func 0 { @f0 ( ) ; }", 0, 0, 0, RegisterCompiler.DEEP);
        Check.dueFault("func 0 { " + "{ } ".repeat(56) + "@f0 ( ) ; }", 0, 0, 0, RegisterCompiler.DEEP);
        Check.dueFault("func 1 { " + "{ } ".repeat(55) + "return 1 @/ - v0 ; }", 0, 0, 0, RegisterCompiler.DIVIDE);
        Check.dueFault("func 1 { " + "{ } ".repeat(54) + "return @m [ v0 ] ; }", -1, 0, 0, RegisterCompiler.INDEX);
        Check.dueFault("func 1 { " + "{ } ".repeat(54) + "{ @while ( 1 ) { } } }", 0, 0, 0, RegisterCompiler.STOPPED);
    }

    private static void refusedRunsDoNotCount() {
        Check.sentence("Of the same run");
        RegisterCompiler x = Check.compiled("func 1 { return 10 / v0 ; }");
        Check.dueRun(x, 0, 0, 0, RegisterCompiler.DIVIDE, 5);
        Check.due("run(-1, ..)", x.run(-1, 0, 0, 0), RegisterCompiler.REFUSED);
        Check.due("endedAt() after REFUSED", x.endedAt(), 5);
        Check.dueRun(x, 1, 0, 0, DONE, 10);
        Check.due("run(1, ..)", x.run(1, 0, 0, 0), RegisterCompiler.REFUSED);
        Check.due("endedAt() after REFUSED", x.endedAt(), -1);
    }

    /** The places are those of the compiled program, whatever the tokens are by now. */
    private static void placesOfTheCompiledProgram() {
        Check.sentence("the place at which it ended other than by DONE");
        RegisterCompiler x = Check.compiled("func 1 { v1 = 3 ; return 10 / v0 ; }");
        x.wipe();
        Check.dueRun(x, 0, 0, 0, RegisterCompiler.DIVIDE, 9);
        Check.feed(x, "func 1 { while ( v0 ) { } return 3 ; }");
        Check.dueRun(x, 0, 0, 0, RegisterCompiler.DIVIDE, 9);
        Check.due("compile()", x.compile(), RegisterCompiler.OK);
        Check.due("endedAt() after compile()", x.endedAt(), 9);
        Check.dueRun(x, 1, 0, 0, RegisterCompiler.STOPPED, 3);
        Check.dueRun(x, 0, 0, 0, DONE, 3);
    }
}
