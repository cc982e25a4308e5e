/** Promise 13: store. */
public final class Promise13StoreTest {
    public static void main(String[] args) {
        RegisterCompiler x = new RegisterCompiler(3);
        for (int i = 0; i < 16; i++) {
            Check.due("store(" + i + ", ..)", x.store(i, 7 * i - 40), true);
        }
        for (int i : new int[] {Integer.MIN_VALUE, -1, 16, 17, Integer.MAX_VALUE}) {
            Check.due("store(" + i + ", 5)", x.store(i, 5), false);
        }
        for (int i = 0; i < 16; i++) {
            Check.due("memory(" + i + ")", x.memory(i), 7 * i - 40);
        }
        Check.feed(x, "func 1 { m [ v0 + 1 ] = 5 ; return m [ v0 ] ; }");
        Check.due("compile()", x.compile(), RegisterCompiler.OK);
        Check.dueRun(x, 0, 0, 0, RegisterCompiler.DONE, -40);
        Check.dueRun(x, 14, 0, 0, RegisterCompiler.DONE, 58);
        Check.due("memory(15) that a run set", x.memory(15), 5);
        Check.due("store(15, min)", x.store(15, Integer.MIN_VALUE), true);
        Check.due("memory(15)", x.memory(15), Integer.MIN_VALUE);
        Check.due("store changes no result()", x.result(), 58);
        Check.dueRun(x, 15, 0, 0, RegisterCompiler.INDEX, 3);
        Check.finish();
    }
}
