/** Promise 12: memory. */
public final class Promise12MemoryTest {
    private static final int DONE = RegisterCompiler.DONE;
    private static final String FILL = "func 2 { while ( v0 < v1 ) { m [ v0 ] = 1000 + v0 ; v0 = v0 + 1 ; } }";

    public static void main(String[] args) {
        elementsThatARunSet();
        elementsThatWereStored();
        outside();
        readingChangesNothing();
        everythingElseKeepsThem();
        Check.finish();
    }

    private static void dueElements(RegisterCompiler x, int from, int to) {
        for (int i = 0; i < 16; i++) {
            Check.due("memory(" + i + ")", x.memory(i), i >= from && i < to ? 1000 + i : 0);
        }
    }

    private static void elementsThatARunSet() {
        Check.sentence("Element i of m");
        int[][] parts = {{0, 1}, {15, 16}, {0, 16}, {7, 9}};
        for (int[] part : parts) {
            RegisterCompiler x = Check.dueResult(FILL, part[0], part[1], 0, 0);
            dueElements(x, part[0], part[1]);
        }
    }

    private static void elementsThatWereStored() {
        Check.sentence("Element i of m");
        for (int i = 0; i < 16; i++) {
            RegisterCompiler x = new RegisterCompiler(1);
            x.store(i, 1000 + i);
            dueElements(x, i, i + 1);
        }
    }

    private static void outside() {
        Check.sentence("0 if i is outside 0..15");
        RegisterCompiler x = Check.dueResult(FILL, 0, 16, 0, 0);
        for (int i : new int[] {Check.MIN, Check.MIN + 1, -17, -16, -15, -1, 16, 17, 31, 32, 256, Check.MAX}) {
            Check.due("memory(" + i + ")", x.memory(i), 0);
        }
        dueElements(x, 0, 16);
    }

    private static void readingChangesNothing() {
        Check.sentence("Element i of m");
        RegisterCompiler x = Check.compiled(FILL);
        x.memory(3);
        x.memory(-1);
        Check.dueRun(x, 0, 16, 0, DONE, 0);
        Check.due("memory(3)", x.memory(3), 1003);
        Check.due("memory(3) again", x.memory(3), 1003);
    }

    private static void everythingElseKeepsThem() {
        Check.sentence("What was done before the end of a run stays done (m, ..)");
        RegisterCompiler x = Check.compiled(FILL);
        Check.dueRun(x, 14, 20, 0, RegisterCompiler.INDEX, 10);
        dueElements(x, 14, 16);
        Check.dueRun(x, 0, 0, 0, DONE, 0);
        Check.due("run(1, ..)", x.run(1, 0, 16, 0), RegisterCompiler.REFUSED);
        x.wipe();
        dueElements(x, 14, 16);
        Check.due("compile()", x.compile(), RegisterCompiler.SYNTAX);
        dueElements(x, 14, 16);
        Check.due("compile()", Check.recompile(x, "func 1 { return m [ v0 ] ; }"), RegisterCompiler.OK);
        dueElements(x, 14, 16);
        Check.dueRun(x, 15, 0, 0, DONE, 1015);
        Check.dueRun(x, 0, 0, 0, DONE, 0);
    }
}
