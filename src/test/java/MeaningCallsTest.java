/** What the document's "Terms" say of calls: variables, arguments, how deep they go and their value. */
public final class MeaningCallsTest {
    private static final int DONE = RegisterCompiler.DONE;
    private static final int DEEP = RegisterCompiler.DEEP;
    private static final int DIVIDE = RegisterCompiler.DIVIDE;

    public static void main(String[] args) {
        functionsAreNumberedInTheirOrder();
        everyCallHasItsOwnVariables();
        parametersGetTheArguments();
        theOthersAreZero();
        argumentsFromLeftToRight();
        eightCallsMayBeActive();
        deepAtTheCall();
        callsThatEndedAreNotActive();
        argumentsAreNoActiveCalls();
        argumentsBeforeTheDepth();
        theDepthBeforeTheTick();
        argumentsBeforeTheTick();
        theValueOfACall();
        zeroIfTheEndIsReached();
        valuesThatAreNotUsed();
        loopsOfTheCallerGoOn();
        Check.finish();
    }

    private static void functionsAreNumberedInTheirOrder() {
        Check.sentence("Functions are numbered 0, 1, .. in their order");
        RegisterCompiler x = Check.compiled("func 0 { return f1 ( ) * 1000 + f2 ( ) * 100 + f3 ( ) * 10 + 1 ; } func 0 { return 2 ; }"
                + " func 0 { return 3 ; } func 0 { return 4 ; }");
        int[] due = {2341, 2, 3, 4};
        for (int f = 0; f < 4; f++) {
            Check.due("run(" + f + ", ..)", x.run(f, 0, 0, 0), DONE);
            Check.due("result() of function " + f, x.result(), due[f]);
        }
    }

    private static void everyCallHasItsOwnVariables() {
        Check.sentence("Every call of a function has its own variables VAR 0..5");
        for (int registers = 0; registers <= 7; registers++) {
            RegisterCompiler x = Check.compiled(registers,
                    "func 2 { v2 = 3 ; v3 = 4 ; v4 = 5 ; v5 = 6 ; v2 = v2 * f1 ( v1 ) ; return v0 + v1 + v2 + v3 + v4 + v5 ; }"
                    + " func 1 { v3 = v1 | v2 | v3 | v4 | v5 ; v1 = 9 ; v2 = 9 ; v4 = 9 ; v5 = 9 ; return v0 - v3 ; }");
            Check.dueRun(x, 100, 20, 0, DONE, 100 + 20 + 60 + 15);
            RegisterCompiler y = Check.compiled(registers, "func 1 { v1 = v0 ; v2 = v0 * 2 ; v3 = v0 * 3 ; v4 = v0 * 4 ; v5 = v0 * 5 ;"
                    + " if ( v0 > 1 ) f0 ( v0 - 1 ) ; print v0 + 10 * ( v1 + 10 * ( v2 + 10 * ( v3 + 10 * ( v4 + 10 * v5 ) ) ) ) ; }");
            Check.dueRun(y, 8, 0, 0, DONE, 0);
            for (int n = 1; n <= 8; n++) {
                Check.due("output of the call with " + n, y.output(n - 1), n * (1 + 10 * (1 + 10 * (2 + 10 * (3 + 10 * (4 + 10 * 5))))));
            }
        }
    }

    private static void parametersGetTheArguments() {
        Check.sentence("the first as many as it has parameters get the arguments");
        String show = "print v0 ; print v1 ; print v2 ; print v3 ; print v4 ; print v5 ; ";
        RegisterCompiler x = Check.compiled("func 0 { f1 ( 7 ) ; } func 1 { " + show + "}");
        Check.dueRun(x, 1, 2, 3, DONE, 0);
        Check.dueOutput(x, 7, 0, 0, 0, 0, 0);
        x = Check.compiled("func 0 { f1 ( 7 , -8 ) ; } func 2 { " + show + "}");
        Check.dueRun(x, 1, 2, 3, DONE, 0);
        Check.dueOutput(x, 7, -8, 0, 0, 0, 0);
        x = Check.compiled("func 0 { f1 ( -2147483648 , 8 , 2147483647 ) ; } func 3 { " + show + "}");
        Check.dueRun(x, 1, 2, 3, DONE, 0);
        Check.dueOutput(x, Check.MIN, 8, Check.MAX, 0, 0, 0);
        x = Check.compiled("func 0 { f1 ( ) ; } func 0 { " + show + "}");
        Check.dueRun(x, 1, 2, 3, DONE, 0);
        Check.dueOutput(x, 0, 0, 0, 0, 0, 0);
    }

    private static void theOthersAreZero() {
        Check.sentence("the others are 0");
        for (int registers = 1; registers <= 6; registers++) {
            RegisterCompiler x = Check.compiled(registers, "func 0 { v0 = 1 ; v1 = 2 ; v2 = 3 ; v3 = 4 ; v4 = 5 ; v5 = 6 ;"
                    + " f1 ( 9 ) ; f1 ( 8 ) ; return v0 * v1 * v2 * v3 * v4 * v5 ; }"
                    + " func 1 { print v1 | v2 | v3 | v4 | v5 ; v0 = 70 ; v1 = 71 ; v2 = 72 ; v3 = 73 ; v4 = 74 ; v5 = 75 ; }");
            Check.dueRun(x, 0, 0, 0, DONE, 720);
            Check.dueOutput(x, 0, 0);
            Check.dueRun(x, 0, 0, 0, DONE, 720);
            Check.dueOutput(x, 0, 0);
            Check.due("run(1, ..)", x.run(1, 5, 6, 7), DONE);
            Check.dueOutput(x, 0);
        }
    }

    private static void argumentsFromLeftToRight() {
        Check.sentence("CALL: the arguments are evaluated");
        RegisterCompiler x = Check.dueResult("func 0 { return f1 ( f2 ( 1 ) , f2 ( 2 ) , f2 ( 3 ) ) ; }"
                + " func 3 { print 9 ; return v0 * 100 + v1 * 10 + v2 ; } func 1 { print v0 ; return v0 ; }", 0, 0, 0, 123);
        Check.dueOutput(x, 1, 2, 3, 9);
        Check.dueFault("func 2 { f0 ( 1 @/ 0 , m [ 16 ] ) ; }", 0, 0, 0, DIVIDE);
        Check.dueFault("func 2 { f0 ( @m [ 16 ] , 1 / 0 ) ; }", 0, 0, 0, RegisterCompiler.INDEX);
    }

    private static void eightCallsMayBeActive() {
        Check.sentence("if 8 calls are active (the outermost is one)");
        String program = "func 1 { m [ 0 ] = m [ 0 ] + 1 ; if ( v0 > 1 ) return 1 + @f0 ( v0 - 1 ) ; return 1 ; }";
        for (int depth = 1; depth <= 12; depth++) {
            RegisterCompiler x = Check.compiled(program);
            Check.dueRun(x, depth, 0, 0, depth <= 8 ? DONE : DEEP, depth <= 8 ? depth : Check.marked(program));
            Check.due("calls of depth " + depth, x.memory(0), depth <= 8 ? depth : 8);
            Check.due("used() of depth " + depth, x.used(), depth <= 8 ? depth - 1 : 7);
        }
    }

    private static void deepAtTheCall() {
        Check.sentence("the run ends with DEEP at the CALL");
        Check.dueFault("func 0 { @f0 ( ) ; }", 0, 0, 0, DEEP);
        Check.dueFault("func 0 { return 1 + @f0 ( ) ; }", 0, 0, 0, DEEP);
        Check.dueFault("func 1 { f0 ( @f0 ( v0 ) ) ; }", 0, 0, 0, DEEP);
        Check.dueFault("func 1 { while ( @f0 ( v0 ) ) { } }", 0, 0, 0, DEEP);
        // Functions 0 1 2 3 0 1 2 3 are active, then 0 1 2 0 1 2 0 1, then 0 1 0 1 0 1 0 1.
        Check.dueFault("func 0 { f1 ( ) ; } func 0 { f2 ( ) ; } func 0 { f3 ( ) ; } func 0 { @f0 ( ) ; }", 0, 0, 0, DEEP);
        Check.dueFault("func 0 { f1 ( ) ; } func 0 { @f2 ( ) ; } func 0 { f0 ( ) ; }", 0, 0, 0, DEEP);
        Check.dueFault("func 0 { f1 ( ) ; } func 0 { @f0 ( ) ; }", 0, 0, 0, DEEP);
    }

    private static void callsThatEndedAreNotActive() {
        Check.sentence("if 8 calls are active");
        RegisterCompiler x = Check.compiled("func 1 { while ( v0 > 0 ) { v0 = v0 - 1 ; v1 = v1 + f1 ( 6 ) ; } return v1 ; }"
                + " func 1 { if ( v0 ) return 1 + f1 ( v0 - 1 ) ; }");
        for (int n : new int[] {0, 1, 2, 9, 14}) {
            Check.dueRun(x, n, 0, 0, DONE, 6 * n);
            Check.due("used() for " + n, x.used(), 8 * n + 1);
        }
        RegisterCompiler y = Check.compiled("func 0 { " + "f1 ( ) ; ".repeat(28) + "} func 0 { }");
        Check.dueRun(y, 0, 0, 0, DONE, 0);
        Check.due("used() by 28 calls", y.used(), 28);
        // A run that ended in the depth leaves no call active for the next one.
        RegisterCompiler z = Check.compiled("func 1 { if ( v0 ) return 1 + f0 ( v0 - 1 ) ; }");
        for (int again = 0; again < 10; again++) {
            Check.dueRun(z, 20, 0, 0, DEEP, 10);
            Check.dueRun(z, 7, 0, 0, DONE, 7);
        }
    }

    private static void argumentsAreNoActiveCalls() {
        Check.sentence("the arguments are evaluated; then, if 8 calls are active");
        RegisterCompiler x = Check.dueResult("func 1 { return " + "f1 ( ".repeat(30) + "v0" + " )".repeat(30)
                + " ; } func 1 { return v0 + 1 ; }", 5, 0, 0, 35);
        Check.due("used()", x.used(), 30);
    }

    private static void argumentsBeforeTheDepth() {
        Check.sentence("the arguments are evaluated; then, if 8 calls are active, the run ends with DEEP");
        // The eighth call has v0 = 1 in the first of these, v0 = 7 in the second and v0 = 2 in the third.
        Check.dueFault("func 1 { f0 ( v0 - 1 + 0 @/ ( v0 - 1 ) ) ; }", 8, 0, 0, DIVIDE);
        Check.dueFault("func 1 { f0 ( v0 + 1 + @m [ v0 + 9 ] ) ; }", 0, 0, 0, RegisterCompiler.INDEX);
        Check.dueFault("func 1 { @f0 ( v0 - 1 + 0 / ( v0 - 1 ) ) ; }", 9, 0, 0, DEEP);
    }

    private static void theDepthBeforeTheTick() {
        Check.sentence("DEEP at the CALL; then one TICK is used up");
        String program = "func 1 { while ( v0 > 0 ) v0 = v0 - 1 ; f1 ( ) ; } func 0 { @f1 ( ) ; }";
        RegisterCompiler x = Check.dueFault(program, 112, 0, 0, DEEP);
        Check.due("used()", x.used(), 120);
        x = Check.dueFault(program, 113, 0, 0, RegisterCompiler.STOPPED);
        Check.due("used()", x.used(), 120);
    }

    private static void argumentsBeforeTheTick() {
        Check.sentence("the arguments are evaluated; .. then one TICK is used up");
        String loop = "func 1 { while ( v0 > 0 ) v0 = v0 - 1 ; ";
        Check.dueFault(loop + "f0 ( 1 @/ v0 ) ; }", 119, 0, 0, DIVIDE);
        Check.dueFault(loop + "f0 ( @m [ 16 ] ) ; }", 119, 0, 0, RegisterCompiler.INDEX);
        Check.dueFault(loop + "@f1 ( v0 ) ; } func 1 { }", 119, 0, 0, RegisterCompiler.STOPPED);
        Check.dueFault(loop + "f1 ( @f1 ( v0 ) ) ; } func 1 { }", 119, 0, 0, RegisterCompiler.STOPPED);
        Check.dueFault(loop + "@f1 ( f1 ( v0 ) ) ; } func 1 { }", 118, 0, 0, RegisterCompiler.STOPPED);
    }

    private static void theValueOfACall() {
        Check.sentence("its value is that of the return");
        Check.dueResult("func 1 { return f1 ( v0 ) - f1 ( 2 ) ; } func 1 { return v0 * v0 ; }", 5, 0, 0, 21);
        Check.dueResult("func 1 { return f1 ( v0 ) ; } func 1 { return v0 ; return 5 ; }", Check.MIN, 0, 0, Check.MIN);
        Check.dueResult("func 1 { v0 = f1 ( v0 ) ; return v0 ; } func 1 { { { return v0 + 1 ; } } }", 4, 0, 0, 5);
        Check.dueResult("func 1 { if ( f1 ( v0 ) ) return 3 ; return 4 ; } func 1 { return ! v0 ; }", 0, 0, 0, 3);
    }

    private static void zeroIfTheEndIsReached() {
        Check.sentence("0 if its end is reached");
        Check.dueResult("func 0 { return 10 - f1 ( ) ; } func 0 { }", 0, 0, 0, 10);
        Check.dueResult("func 0 { return 10 - f1 ( 7 ) ; } func 1 { v0 = 6 ; v1 = v0 ; }", 0, 0, 0, 10);
        Check.dueResult("func 0 { return 10 - f1 ( ) ; } func 0 { f2 ( ) ; } func 0 { return 3 ; }", 0, 0, 0, 10);
        Check.dueResult("func 0 { return 10 - f1 ( 0 ) - f1 ( 4 ) ; } func 1 { if ( v0 ) return v0 ; }", 0, 0, 0, 6);
        Check.dueResult("func 0 { return 10 - f1 ( ) ; } func 0 { while ( 1 ) break ; }", 0, 0, 0, 10);
    }

    /** A call as a statement leaves the values that wait alone. */
    private static void valuesThatAreNotUsed() {
        Check.sentence("call \";\"");
        Check.dueResult("func 0 { return 10 - f1 ( ) * 2 ; } func 0 { f2 ( ) ; f2 ( ) ; return 3 ; } func 0 { return 50 ; }", 0, 0, 0, 4);
        Check.dueResult("func 0 { f1 ( ) ; f1 ( ) ; } func 0 { return 50 ; }", 0, 0, 0, 0);
    }

    private static void loopsOfTheCallerGoOn() {
        Check.sentence("then the function's block is executed");
        RegisterCompiler x = Check.dueResult("func 1 { while ( v0 > 0 ) { v0 = v0 - 1 ; print f1 ( v0 ) ;"
                + " if ( v0 == 1 ) continue ; print 7 ; } return 5 ; }"
                + " func 1 { while ( 1 ) { while ( 1 ) { if ( v0 > 1 ) return v0 ; break ; } return 20 + v0 ; } }", 3, 0, 0, 5);
        Check.dueOutput(x, 2, 7, 21, 20, 7);
    }
}
