/** Promise 13: store. */
public final class Promise13StoreTest {
    private static final int[] OUTSIDE = {Check.MIN, Check.MIN + 1, -17, -16, -1, 16, 17, 31, 32, 256, Check.MAX};

    public static void main(String[] args) {
        setsAnElement();
        anyValue();
        programsSeeIt();
        outsideIsFalse();
        outsideChangesNoElement();
        nothingElseChanges();
        Check.finish();
    }

    private static void setsAnElement() {
        Check.sentence("Sets element i of m");
        for (int i = 0; i < 16; i++) {
            RegisterCompiler x = new RegisterCompiler(3);
            Check.due("store(" + i + ", 8)", x.store(i, 8), true);
            for (int k = 0; k < 16; k++) {
                Check.due("memory(" + k + ")", x.memory(k), k == i ? 8 : 0);
            }
        }
    }

    private static void anyValue() {
        Check.sentence("Sets element i of m");
        RegisterCompiler x = new RegisterCompiler(3);
        for (int v : new int[] {Check.MIN, -1, 0, 1, Check.MAX, 0}) {
            Check.due("store(0, " + v + ")", x.store(0, v), true);
            Check.due("memory(0)", x.memory(0), v);
            Check.due("store(15, " + v + ")", x.store(15, v), true);
            Check.due("memory(15)", x.memory(15), v);
        }
    }

    private static void programsSeeIt() {
        Check.sentence("Sets element i of m");
        RegisterCompiler x = Check.compiled("func 1 { m [ v0 + 1 ] = 5 ; return m [ v0 ] ; }");
        x.store(0, -40);
        x.store(14, 58);
        Check.dueRun(x, 0, 0, 0, RegisterCompiler.DONE, -40);
        Check.dueRun(x, 14, 0, 0, RegisterCompiler.DONE, 58);
        Check.due("memory(15) that a run set", x.memory(15), 5);
        Check.due("store(15, min)", x.store(15, Check.MIN), true);
        Check.due("memory(15)", x.memory(15), Check.MIN);
    }

    private static void outsideIsFalse() {
        Check.sentence("false .. if i is outside 0..15");
        RegisterCompiler x = new RegisterCompiler(3);
        for (int i : OUTSIDE) {
            Check.due("store(" + i + ", 5)", x.store(i, 5), false);
            Check.due("memory(" + i + ")", x.memory(i), 0);
        }
    }

    private static void outsideChangesNoElement() {
        Check.sentence("false, changing nothing");
        RegisterCompiler x = new RegisterCompiler(3);
        for (int i = 0; i < 16; i++) {
            x.store(i, 7 * i - 40);
        }
        for (int i : OUTSIDE) {
            x.store(i, 5);
        }
        for (int i = 0; i < 16; i++) {
            Check.due("memory(" + i + ")", x.memory(i), 7 * i - 40);
        }
    }

    private static void nothingElseChanges() {
        Check.sentence("false, changing nothing");
        String program = "func 1 { print 3 ; f1 ( ) ; return 8 @/ v0 ; } func 0 { }";
        RegisterCompiler x = Check.dueFault(program, 0, 0, 0, RegisterCompiler.DIVIDE);
        for (int i : new int[] {-1, 0, 15, 16}) {
            x.store(i, 2);
            Check.due("endedAt()", x.endedAt(), Check.marked(program));
            Check.due("used()", x.used(), 1);
            Check.dueOutput(x, 3);
        }
        Check.dueRun(x, 2, 0, 0, RegisterCompiler.DONE, 4);
        x.store(16, 9);
        Check.due("result()", x.result(), 4);
        Check.due("place()", x.place(), -1);
        Check.due("wipe()", x.wipe(), Check.count(program));
    }
}
