/** "An object is used for at most 512 calls after it has been made": up to there every answer is due. */
public final class CallLimitTest {
    private static final int MOST = 512;
    private static int calls = 0;

    public static void main(String[] args) {
        Check.sentence("An object is used for at most 512 calls after it has been made");
        compiles();
        runs();
        wipes();
        stores();
        refusedCalls();
        Check.finish();
    }

    private static RegisterCompiler filled(String program) {
        RegisterCompiler x = Check.fed(program);
        calls = Check.count(program);
        return x;
    }

    /** Answers how many calls were left before this one. */
    private static int left() {
        calls++;
        return MOST - calls + 1;
    }

    private static void compiles() {
        RegisterCompiler x = filled("func 1 { return v0" + " && v0".repeat(41) + " ; }"
                + " func 1 { while ( v0 ) v0 = v0 - 1 ; return f0 ( 7 ) + 1 ; }");
        while (left() > 2) {
            Check.due("compile() as call " + calls, x.compile(), RegisterCompiler.OK);
        }
        Check.due("run", x.run(1, 3, 0, 0), RegisterCompiler.DONE);
        Check.due("result()", x.result(), 2);
    }

    private static void runs() {
        RegisterCompiler x = filled("func 1 { print v0 ; m [ 0 ] = m [ 0 ] + 1 ; while ( v0 > 9 ) { } v0 = v0 + f0 ( 1 / v0 ) ; }");
        Check.due("compile()", x.compile(), RegisterCompiler.OK);
        left();
        int runs = 0;
        while (left() > 3) {
            int n = runs % 3;
            int[] given = {0, 10, 1};
            int[] due = {RegisterCompiler.DIVIDE, RegisterCompiler.STOPPED, RegisterCompiler.DEEP};
            Check.due("run as call " + calls, x.run(0, given[n], 0, 0), due[n]);
            runs++;
        }
        Check.due("printed()", x.printed() > 0, true);
        Check.due("memory(0)", x.memory(0) >= runs, true);
        Check.due("place()", x.place(), -1);
    }

    private static void wipes() {
        RegisterCompiler x = filled("");
        int tokens = 0;
        while (left() > 22) {
            if (tokens == 120) {
                Check.due("wipe() as call " + calls, x.wipe(), 120);
                tokens = 0;
            } else {
                Check.due("token as call " + calls, x.token(tokens % 42, 0), true);
                tokens++;
            }
        }
        Check.due("wipe()", x.wipe(), tokens);
        String program = "func 2 { return ( v0 - v1 ) * v0 / v1 ; }";
        Check.feed(x, program);
        calls += Check.count(program);
        Check.due("compile()", x.compile(), RegisterCompiler.OK);
        Check.due("run", x.run(0, 9, 3, 0), RegisterCompiler.DONE);
        Check.due("result()", x.result(), 18);
        calls += 3;
        Check.due("no call too many", calls <= MOST, true);
    }

    private static void stores() {
        RegisterCompiler x = filled("");
        int stored = 0;
        while (left() > 16) {
            Check.due("store as call " + calls, x.store(stored % 16, stored), true);
            stored++;
        }
        for (int i = 0; i < 16; i++) {
            int latest = stored - 1 - (stored - 1 - i) % 16;
            Check.due("memory(" + i + ")", x.memory(i), latest);
        }
    }

    private static void refusedCalls() {
        RegisterCompiler x = filled("func 1 { return 4 / v0 ; }");
        Check.due("compile()", x.compile(), RegisterCompiler.OK);
        Check.due("run", x.run(0, 0, 0, 0), RegisterCompiler.DIVIDE);
        calls += 2;
        while (left() > 6) {
            Check.due("token", x.token(42, 0), false);
            Check.due("store", x.store(16, 0), false);
            Check.due("run", x.run(1, 0, 0, 0), RegisterCompiler.REFUSED);
            calls += 2;
        }
        Check.due("endedAt()", x.endedAt(), 5);
        Check.due("run", x.run(0, 2, 0, 0), RegisterCompiler.DONE);
        Check.due("result()", x.result(), 2);
    }
}
