/** Promise 11: output. */
public final class Promise11OutputTest {
    private static final int DONE = RegisterCompiler.DONE;
    private static final String COUNT_UP = "func 2 { while ( v0 > 0 ) { v0 = v0 - 1 ; print v1 ; v1 = v1 + 1 ; } }";

    public static void main(String[] args) {
        thereWasNoRun();
        zeroIsTheFirst();
        noneSuch();
        above23();
        anyValue();
        theRunBeforeIsForgotten();
        refusedRunsDoNotCount();
        Check.finish();
    }

    private static void thereWasNoRun() {
        Check.sentence("0 if there was none such");
        RegisterCompiler x = Check.compiled(COUNT_UP);
        for (int k = -1; k <= 25; k++) {
            Check.due("output(" + k + ") before any run", x.output(k), 0);
        }
    }

    private static void zeroIsTheFirst() {
        Check.sentence("Value k that it printed (0 the first)");
        RegisterCompiler x = Check.dueResult(COUNT_UP, 24, 100, 0, 0);
        for (int k = 0; k <= 23; k++) {
            Check.due("output(" + k + ")", x.output(k), 100 + k);
        }
        Check.due("output(0) again", x.output(0), 100);
    }

    private static void noneSuch() {
        Check.sentence("0 if there was none such");
        RegisterCompiler x = Check.compiled(COUNT_UP);
        for (int count : new int[] {24, 23, 2, 1, 0}) {
            Check.dueRun(x, count, 100, 0, DONE, 0);
            for (int k = 0; k <= 24; k++) {
                Check.due("output(" + k + ") of " + count, x.output(k), k < count ? 100 + k : 0);
            }
            for (int k : new int[] {Check.MIN, -24, -2, -1}) {
                Check.due("output(" + k + ") of " + count, x.output(k), 0);
            }
        }
    }

    private static void above23() {
        Check.sentence("or k is above 23");
        RegisterCompiler x = Check.compiled(COUNT_UP);
        for (int count : new int[] {23, 24, 25, 26, 48, 49, 119}) {
            Check.dueRun(x, count, 500, 0, DONE, 0);
            Check.due("output(0) of " + count, x.output(0), 500);
            Check.due("output(22) of " + count, x.output(22), 522);
            Check.due("output(23) of " + count, x.output(23), count > 23 ? 523 : 0);
            for (int k : new int[] {24, 25, 26, 47, 48, 118, 119, 120, Check.MAX}) {
                Check.due("output(" + k + ") of " + count, x.output(k), 0);
            }
        }
    }

    private static void anyValue() {
        Check.sentence("Value k that it printed");
        RegisterCompiler x = Check.compiled("func 3 { print v0 ; print v1 ; print v2 ; }");
        Check.dueRun(x, Check.MIN, 0, Check.MAX, DONE, 0);
        Check.dueOutput(x, Check.MIN, 0, Check.MAX);
        RegisterCompiler y = Check.compiled(COUNT_UP);
        Check.dueRun(y, 200, Check.MAX, 0, RegisterCompiler.STOPPED, 3);
        Check.due("output(0) after STOPPED", y.output(0), Check.MAX);
        Check.due("output(1) after STOPPED", y.output(1), Check.MIN);
    }

    private static void theRunBeforeIsForgotten() {
        Check.sentence("What was printed by the run before is forgotten");
        RegisterCompiler x = Check.compiled(COUNT_UP);
        Check.dueRun(x, 30, 100, 0, DONE, 0);
        Check.dueRun(x, 2, 7, 0, DONE, 0);
        Check.dueOutput(x, 7, 8);
        Check.dueRun(x, 0, 7, 0, DONE, 0);
        Check.dueOutput(x);
    }

    private static void refusedRunsDoNotCount() {
        Check.sentence("REFUSED, changing nothing");
        RegisterCompiler x = Check.compiled(COUNT_UP);
        Check.dueRun(x, 30, -5, 0, DONE, 0);
        Check.due("run(1, ..)", x.run(1, 0, 0, 0), RegisterCompiler.REFUSED);
        Check.due("output(0) after REFUSED", x.output(0), -5);
        Check.due("output(23) after REFUSED", x.output(23), 18);
        Check.due("output(24) after REFUSED", x.output(24), 0);
    }
}
