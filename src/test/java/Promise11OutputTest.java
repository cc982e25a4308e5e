/** Promise 11: output. */
public final class Promise11OutputTest {
    public static void main(String[] args) {
        RegisterCompiler x = new RegisterCompiler(6);
        Check.due("output(0) of a new object", x.output(0), 0);
        Check.feed(x, "func 2 { while ( v0 > 0 ) { v0 = v0 - 1 ; print v1 ; v1 = v1 + 1 ; } }");
        x.compile();
        for (int count : new int[] {40, 25, 24, 23, 1, 0}) {
            Check.dueRun(x, count, 100, 0, RegisterCompiler.DONE, 0);
            Check.due("printed()", x.printed(), count);
            for (int k = 0; k <= 25; k++) {
                Check.due("output(" + k + ") of " + count, x.output(k), k < count && k <= 23 ? 100 + k : 0);
            }
        }
        Check.dueRun(x, 30, -5, 0, RegisterCompiler.DONE, 0);
        for (int k : new int[] {Integer.MIN_VALUE, -1, 24, 25, 29, 30, Integer.MAX_VALUE}) {
            Check.due("output(" + k + ")", x.output(k), 0);
        }
        Check.due("run(1, ..)", x.run(1, 0, 0, 0), RegisterCompiler.REFUSED);
        Check.due("output(0) after REFUSED", x.output(0), -5);
        Check.due("output(23) after REFUSED", x.output(23), 18);
        Check.dueRun(x, 200, Integer.MAX_VALUE, 0, RegisterCompiler.STOPPED, 3);
        Check.due("output(0) after STOPPED", x.output(0), Integer.MAX_VALUE);
        Check.due("output(1) after STOPPED", x.output(1), Integer.MIN_VALUE);
        Check.finish();
    }
}
