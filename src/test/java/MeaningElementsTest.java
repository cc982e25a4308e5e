/** What the document's "Terms" say of the array m, of division by 0 and of what a fault leaves behind. */
public final class MeaningElementsTest {
    private static final int MIN = Check.MIN;
    private static final int MAX = Check.MAX;
    private static final int DONE = RegisterCompiler.DONE;
    private static final int DIVIDE = RegisterCompiler.DIVIDE;
    private static final int INDEX = RegisterCompiler.INDEX;
    private static final int[] OUTSIDE = {MIN, MIN + 1, -17, -16, -1, 16, 17, 31, 32, 256, MAX};

    public static void main(String[] args) {
        sixteenElements();
        allFunctionsShareThem();
        callsAtAnyDepthShareThem();
        readingOutside();
        settingOutside();
        elementsOfElements();
        theIndexIsEvaluatedFirst();
        theIndexIsTestedLast();
        faultsBeforeTheIndexIsTested();
        divisionsByZero();
        divisionsAtTheirOperator();
        whatWasDoneStaysDone();
        Check.finish();
    }

    private static void sixteenElements() {
        Check.sentence("m is an array of 16 ints");
        RegisterCompiler x = Check.compiled("func 2 { m [ v0 ] = v1 ; return m [ v0 ] ; } func 1 { return m [ v0 ] ; }");
        for (int i = 0; i < 16; i++) {
            Check.dueRun(x, i, i % 2 == 0 ? MIN + i : MAX - i, 0, DONE, i % 2 == 0 ? MIN + i : MAX - i);
        }
        for (int i = 0; i < 16; i++) {
            Check.due("run(1, " + i + ", ..)", x.run(1, i, 0, 0), DONE);
            Check.due("m [ " + i + " ]", x.result(), i % 2 == 0 ? MIN + i : MAX - i);
        }
    }

    private static void allFunctionsShareThem() {
        Check.sentence("that all functions share");
        RegisterCompiler x = Check.compiled("func 0 { m [ 3 ] = 5 ; f1 ( ) ; return m [ 3 ] + m [ 4 ] ; }"
                + " func 0 { m [ 4 ] = 100 ; m [ 3 ] = m [ 3 ] + 10 ; f2 ( ) ; } func 0 { m [ 3 ] = m [ 3 ] * 2 ; }");
        Check.dueRun(x, 0, 0, 0, DONE, 130);
        Check.due("run(2, ..)", x.run(2, 0, 0, 0), DONE);
        Check.due("memory(3) after another run", x.memory(3), 60);
    }

    /** Elements that were set before, in and after a call at any depth are the same for all of them. */
    private static void callsAtAnyDepthShareThem() {
        Check.sentence("that all functions share");
        RegisterCompiler x = Check.compiled("func 1 { m [ v0 ] = m [ v0 ] + 20 ; if ( v0 < 7 ) f0 ( v0 + 1 ) ;"
                + " m [ v0 + 8 ] = m [ v0 + 8 ] + m [ 7 ] ; }");
        for (int i = 0; i < 16; i++) {
            x.store(i, 1000 * i);
        }
        Check.dueRun(x, 0, 0, 0, DONE, 0);
        for (int i = 0; i < 16; i++) {
            Check.due("memory(" + i + ") after eight calls", x.memory(i), 1000 * i + (i < 8 ? 20 : 7020));
        }
    }

    private static void readingOutside() {
        Check.sentence("m [ e ]: if e is outside 0..15, the run ends with INDEX at the token m");
        String program = "func 1 { print 1 ; v1 = 2 + @m [ v0 ] ; print 2 ; return 7 ; }";
        RegisterCompiler x = Check.compiled(program);
        for (int i : OUTSIDE) {
            Check.dueRun(x, i, 0, 0, INDEX, Check.marked(program));
            Check.due("printed()", x.printed(), 1);
        }
        for (int i = 0; i < 16; i++) {
            Check.dueRun(x, i, 0, 0, DONE, 7);
        }
    }

    private static void settingOutside() {
        Check.sentence("m [ e ]: if e is outside 0..15, the run ends with INDEX at the token m");
        String program = "func 1 { print 1 ; @m [ v0 ] = 9 ; print 2 ; return 7 ; }";
        for (int i : OUTSIDE) {
            RegisterCompiler x = Check.dueFault(program, i, 0, 0, INDEX);
            Check.dueOutput(x, 1);
            for (int k = 0; k < 16; k++) {
                Check.due("memory(" + k + ") after INDEX", x.memory(k), 0);
            }
        }
        for (int i = 0; i < 16; i++) {
            RegisterCompiler x = Check.dueResult(program, i, 0, 0, 7);
            for (int k = 0; k < 16; k++) {
                Check.due("memory(" + k + ")", x.memory(k), k == i ? 9 : 0);
            }
        }
    }

    private static void elementsOfElements() {
        Check.sentence("the run ends with INDEX at the token m");
        Check.dueFault("func 1 { return m [ @m [ v0 ] ] ; }", 16, 0, 0, INDEX);
        Check.dueFault("func 1 { m [ 2 ] = 16 ; return @m [ m [ v0 ] ] ; }", 2, 0, 0, INDEX);
        Check.dueFault("func 1 { m [ @m [ v0 ] ] = 1 ; }", -1, 0, 0, INDEX);
        Check.dueFault("func 1 { m [ 2 ] = 0 - 1 ; @m [ m [ v0 ] ] = 1 ; }", 2, 0, 0, INDEX);
        Check.dueFault("func 1 { m [ 0 ] = @m [ v0 ] ; }", -1, 0, 0, INDEX);
        Check.dueResult("func 1 { m [ 2 ] = 15 ; m [ m [ v0 ] ] = 6 ; return m [ m [ v0 ] ] ; }", 2, 0, 0, 6);
    }

    private static void theIndexIsEvaluatedFirst() {
        Check.sentence("In m [ e ] = f, e is evaluated, then f");
        RegisterCompiler x = Check.dueResult("func 0 { m [ f1 ( 3 ) ] = f1 ( 4 ) ; return m [ 3 ] ; } func 1 { print v0 ; return v0 ; }",
                0, 0, 0, 4);
        Check.dueOutput(x, 3, 4);
        RegisterCompiler y = Check.dueResult("func 0 { m [ m [ 0 ] ] = f1 ( ) ; } func 0 { m [ 0 ] = 5 ; return 8 ; }", 0, 0, 0, 0);
        Check.due("memory(0), set after it was the index", y.memory(0), 8);
        Check.due("memory(5)", y.memory(5), 0);
        Check.dueFault("func 1 { m [ 1 @/ v0 ] = m [ 16 ] ; }", 0, 0, 0, DIVIDE);
        Check.dueFault("func 1 { m [ @m [ 16 ] ] = 1 / v0 ; }", 0, 0, 0, INDEX);
    }

    private static void theIndexIsTestedLast() {
        Check.sentence("then f, then e is tested and the element set");
        String program = "func 1 { @m [ v0 ] = f1 ( 4 ) ; } func 1 { print v0 ; m [ 2 ] = v0 ; return v0 ; }";
        for (int i : OUTSIDE) {
            RegisterCompiler x = Check.dueFault(program, i, 0, 0, INDEX);
            Check.dueOutput(x, 4);
            Check.due("used()", x.used(), 1);
            Check.due("memory(2)", x.memory(2), 4);
        }
        RegisterCompiler y = Check.dueResult("func 0 { m [ 2 ] = f1 ( ) + 1 ; } func 0 { m [ 2 ] = 70 ; return m [ 2 ] ; }", 0, 0, 0, 0);
        Check.due("memory(2), set last by the statement", y.memory(2), 71);
    }

    private static void faultsBeforeTheIndexIsTested() {
        Check.sentence("then f, then e is tested and the element set");
        Check.dueFault("func 1 { m [ v0 ] = 1 @/ 0 ; }", 16, 0, 0, DIVIDE);
        Check.dueFault("func 1 { m [ v0 ] = 1 @% 0 ; }", -1, 0, 0, DIVIDE);
        Check.dueFault("func 1 { m [ v0 ] = @m [ v0 ] ; }", 16, 0, 0, INDEX);
        Check.dueFault("func 1 { m [ v0 ] = @f0 ( v0 ) ; }", 16, 0, 0, RegisterCompiler.DEEP);
        Check.dueFault("func 1 { m [ v0 ] = f1 ( ) ; } func 0 { @while ( 1 ) { } }", 16, 0, 0, RegisterCompiler.STOPPED);
    }

    private static void divisionsByZero() {
        Check.sentence("/ and %: if the right side is 0, the run ends with DIVIDE at the operator");
        for (String operator : new String[] {"/", "%"}) {
            String program = "func 2 { print 1 ; v2 = v0 @" + operator + " v1 ; print 2 ; }";
            for (int left : new int[] {MIN, -1, 0, 1, MAX}) {
                RegisterCompiler x = Check.dueFault(program, left, 0, 0, DIVIDE);
                Check.dueOutput(x, 1);
                for (int right : new int[] {MIN, -1, 1, MAX}) {
                    Check.dueRun(x, left, right, 0, DONE, 0);
                }
            }
        }
    }

    private static void divisionsAtTheirOperator() {
        Check.sentence("DIVIDE at the operator");
        Check.dueFault("func 1 { return 8 / 4 @/ v0 / 2 ; }", 0, 0, 0, DIVIDE);
        Check.dueFault("func 1 { return 8 / 4 / 2 @% v0 ; }", 0, 0, 0, DIVIDE);
        Check.dueFault("func 1 { return 8 @/ ( 4 - 2 * 2 + v0 ) ; }", 0, 0, 0, DIVIDE);
        Check.dueFault("func 1 { return - 8 @% - v0 ; }", 0, 0, 0, DIVIDE);
        Check.dueFault("func 1 { return ( 8 / 2 ) @/ ( v0 / 4 ) ; }", 3, 0, 0, DIVIDE);
        Check.dueFault("func 1 { if ( 1 @/ v0 ) { } }", 0, 0, 0, DIVIDE);
        Check.dueFault("func 1 { while ( 1 @% v0 ) { } }", 0, 0, 0, DIVIDE);
        Check.dueFault("func 1 { print 1 @/ v0 ; }", 0, 0, 0, DIVIDE);
        Check.dueFault("func 1 { f0 ( 1 @/ v0 ) ; }", 0, 0, 0, DIVIDE);
        Check.dueFault("func 1 { m [ 1 @/ v0 ] = 1 ; }", 0, 0, 0, DIVIDE);
    }

    private static void whatWasDoneStaysDone() {
        Check.sentence("What was done before the end of a run stays done (m, what was printed)");
        String[] faults = {"return 1 @/ 0 ;", "return @m [ 16 ] ;", "@m [ 16 ] = 3 ;", "@f0 ( ) ;", "@while ( 1 ) { }"};
        int[] answers = {DIVIDE, INDEX, INDEX, RegisterCompiler.DEEP, RegisterCompiler.STOPPED};
        for (int i = 0; i < faults.length; i++) {
            RegisterCompiler x = Check.dueFault("func 0 { if ( ! m [ 1 ] ) print 21 ; m [ 1 ] = m [ 1 ] | 6 ; m [ 15 ] = 7 ; " + faults[i]
                    + " m [ 2 ] = 9 ; print 22 ; }", 0, 0, 0, answers[i]);
            Check.dueOutput(x, 21);
            Check.due("memory(1)", x.memory(1), 6);
            Check.due("memory(15)", x.memory(15), 7);
            Check.due("memory(2), behind the fault", x.memory(2), 0);
        }
    }
}
