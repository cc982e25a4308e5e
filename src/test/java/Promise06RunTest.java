/** Promise 6: run. */
public final class Promise06RunTest {
    private static final int DONE = RegisterCompiler.DONE;
    private static final int REFUSED = RegisterCompiler.REFUSED;

    public static void main(String[] args) {
        asManyArgumentsAsParameters();
        anyFunctionAndAnyArguments();
        anActiveCall();
        usesNoTick();
        whatWasPrintedIsForgotten();
        refusedIfNothingIsCompiled();
        refusedIfThereIsNoFunction();
        refusedRunsChangeNothing();
        everyRunStartsAnew();
        everyAnswer();
        Check.finish();
    }

    private static void asManyArgumentsAsParameters() {
        Check.sentence("with the arguments a, b, c (as many as it has parameters)");
        RegisterCompiler x = Check.compiled(
                "func 0 { return v0 | v1 | v2 | v3 | v4 | v5 ; } func 1 { return v0 + 10 * ( v1 | v2 | v3 | v4 | v5 ) ; }"
                + " func 2 { return v0 - v1 + 10 * ( v2 | v3 | v4 | v5 ) ; }"
                + " func 3 { return v0 - v1 * v2 + ( v3 | v4 | v5 ) ; }");
        int[] due = {0, 7, 7 - 3, 7 - 3 * 5};
        for (int round = 0; round < 2; round++) {
            for (int f = 0; f < 4; f++) {
                Check.due("run(" + f + ", 7, 3, 5)", x.run(f, 7, 3, 5), DONE);
                Check.due("run(" + f + ", 7, 3, 5) result()", x.result(), due[f]);
            }
        }
    }

    private static void anyFunctionAndAnyArguments() {
        Check.sentence("Runs function f");
        RegisterCompiler x = Check.compiled("func 3 { return v0 ; } func 3 { return v1 ; } func 3 { return v2 ; } func 0 { return 4 ; }");
        int[][] given = {{Check.MIN, Check.MAX, -1}, {0, 1, Check.MIN}, {Check.MAX, 0, Check.MAX}};
        for (int[] one : given) {
            for (int f = 0; f < 3; f++) {
                Check.due("run(" + f + ", ..)", x.run(f, one[0], one[1], one[2]), DONE);
                Check.due("run(" + f + ", ..) result()", x.result(), one[f]);
            }
            Check.due("run(3, ..)", x.run(3, one[0], one[1], one[2]), DONE);
            Check.due("run(3, ..) result()", x.result(), 4);
        }
    }

    private static void anActiveCall() {
        Check.sentence("It is an active call");
        RegisterCompiler x = Check.compiled("func 1 { if ( v0 ) return f0 ( v0 - 1 ) + 1 ; print v0 ; }");
        Check.dueRun(x, 7, 0, 0, DONE, 7);
        Check.dueRun(x, 8, 0, 0, RegisterCompiler.DEEP, 8);
        Check.dueRun(x, 7, 0, 0, DONE, 7);
    }

    private static void usesNoTick() {
        Check.sentence("but uses no tick");
        RegisterCompiler x = Check.compiled("func 1 { while ( v0 > 1 ) v0 = v0 - 1 ; } func 0 { }");
        Check.due("run(1, ..)", x.run(1, 0, 0, 0), DONE);
        Check.due("used()", x.used(), 0);
        Check.dueRun(x, 120, 0, 0, DONE, 0);
        Check.due("used()", x.used(), 120);
        Check.dueRun(x, 121, 0, 0, RegisterCompiler.STOPPED, 3);
    }

    private static void whatWasPrintedIsForgotten() {
        Check.sentence("What was printed by the run before is forgotten");
        RegisterCompiler x = Check.compiled("func 2 { while ( v0 > 0 ) { print v0 + v1 ; v0 = v0 - 1 ; } return 1 / v1 ; }");
        Check.dueRun(x, 3, 10, 0, DONE, 0);
        Check.dueOutput(x, 13, 12, 11);
        Check.dueRun(x, 1, 20, 0, DONE, 0);
        Check.dueOutput(x, 21);
        Check.dueRun(x, 0, 20, 0, DONE, 0);
        Check.dueOutput(x);
        Check.dueRun(x, 4, 30, 0, DONE, 0);
        Check.dueRun(x, 0, 0, 0, RegisterCompiler.DIVIDE, 24);
        Check.dueOutput(x);
    }

    private static void refusedIfNothingIsCompiled() {
        Check.sentence("REFUSED, changing nothing, if nothing is compiled");
        RegisterCompiler x = new RegisterCompiler(2);
        Check.due("run of a new object", x.run(0, 1, 2, 3), REFUSED);
        Check.feed(x, "func 0 { print 3 ; }");
        Check.due("run before compile()", x.run(0, 1, 2, 3), REFUSED);
        x.compile();
        Check.due("run after compile()", x.run(0, 1, 2, 3), DONE);
        for (String wrong : new String[] {"func", "func 0 { break ; }", "func 0 { f1 ( ) ; }", "func 0 { f0 ( 1 ) ; }"}) {
            Check.recompile(x, wrong);
            for (int f = -1; f <= 4; f++) {
                Check.due("run(" + f + ", ..) after compile() of " + wrong, x.run(f, 1, 2, 3), REFUSED);
            }
            Check.dueOutput(x, 3);
        }
    }

    private static void refusedIfThereIsNoFunction() {
        Check.sentence("or there is no function f");
        StringBuilder program = new StringBuilder();
        for (int functions = 1; functions <= 4; functions++) {
            program.append("func 0 { return ").append(functions).append(" ; } ");
            RegisterCompiler x = Check.compiled(program.toString());
            for (int f : new int[] {Check.MIN, -2, -1, 0, 1, 2, 3, 4, 5, 8, 256, Check.MAX}) {
                boolean there = f >= 0 && f < functions;
                Check.due("run(" + f + ", ..) of " + functions, x.run(f, 0, 0, 0), there ? DONE : REFUSED);
                Check.due("result()", x.result(), there ? f + 1 : f < 0 ? 0 : functions);
            }
        }
        RegisterCompiler x = Check.compiled("func 0 { } func 0 { } func 0 { }");
        Check.due("compile() of fewer functions", Check.recompile(x, "func 0 { }"), RegisterCompiler.OK);
        Check.due("run(0, ..)", x.run(0, 0, 0, 0), DONE);
        Check.due("run(1, ..) of an older program", x.run(1, 0, 0, 0), REFUSED);
        Check.due("run(2, ..) of an older program", x.run(2, 0, 0, 0), REFUSED);
    }

    private static void refusedRunsChangeNothing() {
        Check.sentence("REFUSED, changing nothing");
        RegisterCompiler x = Check.compiled("func 1 { print 11 ; print 12 ; f1 ( ) ; m [ 4 ] = v0 ; return 9 / v0 ; } func 0 { }");
        Check.dueRun(x, 3, 0, 0, DONE, 3);
        for (int f : new int[] {Check.MIN, -1, 2, 3, 4, Check.MAX}) {
            Check.due("run(" + f + ", ..)", x.run(f, 1, 1, 1), REFUSED);
            dueUnchanged(x, 3, -1, 3);
        }
        Check.dueRun(x, 0, 0, 0, RegisterCompiler.DIVIDE, 22);
        Check.due("run(2, ..)", x.run(2, 1, 1, 1), REFUSED);
        dueUnchanged(x, 0, 22, 0);
        Check.due("place()", x.place(), -1);
        Check.due("compile()", Check.recompile(x, "func 0 { } }"), RegisterCompiler.SYNTAX);
        Check.due("run", x.run(0, 1, 1, 1), REFUSED);
        dueUnchanged(x, 0, 22, 0);
        Check.due("place()", x.place(), 4);
        Check.due("wipe()", x.wipe(), 5);
    }

    private static void dueUnchanged(RegisterCompiler x, int result, int endedAt, int element) {
        Check.due("result()", x.result(), result);
        Check.due("endedAt()", x.endedAt(), endedAt);
        Check.due("used()", x.used(), 1);
        Check.due("printed()", x.printed(), 2);
        Check.due("output(0)", x.output(0), 11);
        Check.due("output(1)", x.output(1), 12);
        Check.due("memory(4)", x.memory(4), element);
    }

    private static void everyRunStartsAnew() {
        Check.sentence("Every call of a function has its own variables");
        RegisterCompiler x = Check.compiled("func 1 { v5 = v5 + 1 ; v1 = v1 + 1 ; m [ 0 ] = m [ 0 ] + 1 ;"
                + " print v5 + v1 ; while ( v0 ) v5 = v5 + 1 ; return v5 ; }");
        Check.dueRun(x, 0, 5, 5, DONE, 1);
        Check.dueRun(x, 1, 5, 5, RegisterCompiler.STOPPED, 32);
        Check.dueRun(x, 0, 5, 5, DONE, 1);
        Check.due("used()", x.used(), 1);
        Check.dueOutput(x, 2);
        Check.due("m stays over the runs", x.memory(0), 3);
    }

    private static void everyAnswer() {
        Check.sentence("Runs function f");
        RegisterCompiler x = Check.compiled("func 2 { if ( v0 == 1 ) return m [ v1 ] ; if ( v0 == 2 ) return 5 % v1 ;"
                + " if ( v0 == 3 ) f0 ( v0 , v1 ) ; while ( v0 ) { } return 77 ; }");
        int[][] due = {{0, 0, DONE, 77}, {1, 16, RegisterCompiler.INDEX, 10}, {2, 0, RegisterCompiler.DIVIDE, 23},
            {3, 0, RegisterCompiler.DEEP, 32}, {4, 0, RegisterCompiler.STOPPED, 39}, {0, 0, DONE, 77}};
        for (int[] one : due) {
            Check.dueRun(x, one[0], one[1], 0, one[2], one[3]);
        }
    }
}
