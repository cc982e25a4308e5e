/** What the document's "Terms" say of ticks. */
public final class MeaningTicksTest {
    private static final int DONE = RegisterCompiler.DONE;
    private static final int STOPPED = RegisterCompiler.STOPPED;

    public static void main(String[] args) {
        oneTickForEachEvaluation();
        breakAndContinue();
        beforeTheCondition();
        nestedWhiles();
        callsAndWhilesTogether();
        oneMoreThan120AtAWhile();
        oneMoreThan120AtACall();
        nothingElseUsesATick();
        stoppedInCalledFunctions();
        Check.finish();
    }

    private static void oneTickForEachEvaluation() {
        Check.sentence("while uses up one TICK before each evaluation of its condition");
        RegisterCompiler x = Check.compiled("func 1 { while ( v0 > 0 ) v0 = v0 - 1 ; }");
        for (int n = 0; n <= 119; n += 7) {
            Check.dueRun(x, n, 0, 0, DONE, 0);
            Check.due("used() for " + n, x.used(), n + 1);
        }
        RegisterCompiler y = Check.dueResult("func 0 { while ( 0 ) { } while ( 0 ) { } while ( 0 ) { } }", 0, 0, 0, 0);
        Check.due("used() of conditions that fail", y.used(), 3);
    }

    private static void breakAndContinue() {
        Check.sentence("before each evaluation of its condition");
        RegisterCompiler x = Check.dueResult("func 0 { while ( 1 ) break ; }", 0, 0, 0, 0);
        Check.due("used() with break", x.used(), 1);
        x = Check.dueResult("func 1 { while ( v0 > 0 ) { v0 = v0 - 1 ; continue ; v0 = 0 ; } }", 5, 0, 0, 0);
        Check.due("used() with continue", x.used(), 6);
        x = Check.dueResult("func 1 { while ( 1 ) { if ( v0 == 0 ) return 3 ; v0 = v0 - 1 ; } }", 5, 0, 0, 3);
        Check.due("used() with return", x.used(), 6);
        x = Check.dueFault("func 0 { @while ( 1 ) continue ; }", 0, 0, 0, STOPPED);
        Check.due("used() with continue for ever", x.used(), 120);
    }

    /** The 120th evaluation still happens; where the tick for the next is missing its condition is not looked at. */
    private static void beforeTheCondition() {
        Check.sentence("one TICK before each evaluation of its condition");
        RegisterCompiler x = Check.dueFault("func 1 { while ( 1 @/ ( v0 - v1 ) < 2 ) v1 = v1 + 1 ; }", 119, 0, 0, RegisterCompiler.DIVIDE);
        Check.due("used()", x.used(), 120);
        x = Check.dueFault("func 1 { @while ( 1 / ( v0 - v1 ) < 2 ) v1 = v1 + 1 ; }", 120, 0, 0, STOPPED);
        Check.due("used()", x.used(), 120);
        x = Check.dueFault("func 1 { while ( 1 @/ v0 ) { } }", 0, 0, 0, RegisterCompiler.DIVIDE);
        Check.due("used() after a condition that failed", x.used(), 1);
    }

    private static void nestedWhiles() {
        Check.sentence("it ends with STOPPED at that CALL or while");
        String head = "func 2 { ";
        String outer = "while ( v0 > 0 ) { v0 = v0 - 1 ; v2 = v1 ; ";
        String inner = "while ( v2 > 0 ) v2 = v2 - 1 ; } }";
        RegisterCompiler x = Check.dueResult(head + outer + inner, 10, 5, 0, 0);
        Check.due("used()", x.used(), 11 + 10 * 6);
        // Each round uses 2 + v1 ticks: with 120 used up the inner while is next for 9, the outer one for 8.
        Check.dueFault(head + outer + "@" + inner, 100, 9, 0, STOPPED);
        Check.dueFault(head + "@" + outer + inner, 100, 8, 0, STOPPED);
    }

    private static void callsAndWhilesTogether() {
        Check.sentence("A run has 120 TICKS");
        RegisterCompiler x = Check.compiled("func 1 { while ( v0 > 0 ) { v0 = v0 - 1 ; v1 = v1 + f1 ( ) ; } return v1 ; }"
                + " func 0 { while ( 0 ) { } return 1 ; }");
        Check.dueRun(x, 39, 0, 0, DONE, 39);
        Check.due("used()", x.used(), 39 * 3 + 1);
        Check.dueRun(x, 40, 0, 0, STOPPED, 3);
        Check.due("used()", x.used(), 120);
    }

    private static void oneMoreThan120AtAWhile() {
        Check.sentence("where one more would be used up, it ends with STOPPED at that CALL or while");
        RegisterCompiler x = Check.dueResult("func 1 { while ( v0 > 0 ) { v0 = v0 - 1 ; print v0 ; } return 6 ; }", 119, 0, 0, 6);
        Check.due("used()", x.used(), 120);
        x = Check.dueFault("func 1 { @while ( v0 > 0 ) { v0 = v0 - 1 ; print v0 ; } return 6 ; }", 120, 0, 0, STOPPED);
        Check.due("used()", x.used(), 120);
        Check.due("the 120th round was done", x.printed(), 120);
        x = Check.dueFault("func 1 { while ( v0 > 0 ) v0 = v0 - 1 ; print 5 ; @while ( 0 ) { } }", 119, 0, 0, STOPPED);
        Check.dueOutput(x, 5);
    }

    private static void oneMoreThan120AtACall() {
        Check.sentence("where one more would be used up, it ends with STOPPED at that CALL or while");
        String loop = "func 1 { while ( v0 > 0 ) v0 = v0 - 1 ; ";
        RegisterCompiler x = Check.dueResult(loop + "return f1 ( ) ; } func 0 { print 5 ; return 8 ; }", 118, 0, 0, 8);
        Check.due("used()", x.used(), 120);
        Check.dueOutput(x, 5);
        x = Check.dueFault(loop + "return @f1 ( ) ; } func 0 { print 5 ; return 8 ; }", 119, 0, 0, STOPPED);
        Check.due("used()", x.used(), 120);
        Check.dueOutput(x);
        x = Check.dueFault(loop + "return f1 ( ) + @f1 ( ) ; } func 0 { print 5 ; return 8 ; }", 118, 0, 0, STOPPED);
        Check.dueOutput(x, 5);
    }

    private static void nothingElseUsesATick() {
        Check.sentence("A run has 120 TICKS");
        RegisterCompiler x = Check.dueResult("func 3 { if ( v0 ) { v1 = - v2 * 3 ; } else { } m [ 2 ] = v1 << 2 ; print m [ 2 ] ; { { } }"
                + " v3 = v0 && v1 || v2 ; if ( v3 ) return v3 + 4 ; }", 1, 2, 3, 5);
        Check.due("used()", x.used(), 0);
        // With all ticks used up a run still goes on to its end.
        x = Check.dueResult("func 1 { while ( v0 > 0 ) v0 = v0 - 1 ;"
                + " if ( 1 ) { m [ 1 ] = 4 ; print 3 ; } return m [ 1 ] ; }", 119, 0, 0, 4);
        Check.due("used()", x.used(), 120);
        Check.dueOutput(x, 3);
    }

    private static void stoppedInCalledFunctions() {
        Check.sentence("it ends with STOPPED at that CALL or while");
        RegisterCompiler x = Check.dueFault("func 0 { f1 ( ) ; } func 0 { f2 ( ) ; } func 0 { @while ( 1 ) { } }", 0, 0, 0, STOPPED);
        Check.due("used()", x.used(), 120);
        x = Check.dueFault("func 0 { f1 ( ) ; } func 0 { while ( 1 ) @f2 ( ) ; } func 0 { }", 0, 0, 0, STOPPED);
        Check.due("used()", x.used(), 120);
        x = Check.dueFault("func 0 { f3 ( ) ; f1 ( ) ; } func 0 { @while ( 1 ) f2 ( ) ; } func 0 { } func 0 { }", 0, 0, 0, STOPPED);
        Check.due("used()", x.used(), 120);
        Check.due("run after STOPPED", x.run(2, 0, 0, 0), DONE);
        Check.due("used()", x.used(), 0);
    }
}
