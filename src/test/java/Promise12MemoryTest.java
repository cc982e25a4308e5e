/** Promise 12: memory. */
public final class Promise12MemoryTest {
    public static void main(String[] args) {
        RegisterCompiler x = Check.compiled("func 2 { while ( v0 < v1 ) { m [ v0 ] = 1000 + v0 ; v0 = v0 + 1 ; } f1 ( ) ; }"
                + " func 0 { m [ 3 ] = m [ 3 ] + m [ 15 ] ; }");
        Check.dueRun(x, 0, 16, 0, RegisterCompiler.DONE, 0);
        dueElements(x, 2018);
        for (int i : new int[] {Integer.MIN_VALUE, -16, -1, 16, 17, 32, Integer.MAX_VALUE}) {
            Check.due("memory(" + i + ")", x.memory(i), 0);
        }
        Check.dueRun(x, 14, 20, 0, RegisterCompiler.INDEX, 10);
        dueElements(x, 2018);
        x.wipe();
        Check.due("compile()", x.compile(), RegisterCompiler.SYNTAX);
        dueElements(x, 2018);
        Check.due("run", x.run(0, 0, 1, 0), RegisterCompiler.REFUSED);
        dueElements(x, 2018);
        Check.finish();
    }

    private static void dueElements(RegisterCompiler x, int third) {
        for (int i = 0; i < 16; i++) {
            Check.due("memory(" + i + ")", x.memory(i), i == 3 ? third : 1000 + i);
        }
    }
}
