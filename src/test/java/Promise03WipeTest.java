/** Promise 3: wipe. */
public final class Promise03WipeTest {
    public static void main(String[] args) {
        removesAllTokens();
        answersTheirNumber();
        whatWasCompiledStays();
        otherTokensLeaveWhatWasCompiledAlone();
        everythingElseStays();
        nothingCompiledStaysNothing();
        Check.finish();
    }

    private static void removesAllTokens() {
        Check.sentence("Removes all tokens");
        RegisterCompiler x = Check.fed("func 0 { break ;");
        x.wipe();
        Check.due("compile() of nothing", x.compile(), RegisterCompiler.SYNTAX);
        Check.due("place() of nothing", x.place(), 0);
        Check.feed(x, "func 0 { return 1 / 0 ; }");
        Check.due("compile() of new tokens", x.compile(), RegisterCompiler.OK);
        Check.dueRun(x, 0, 0, 0, RegisterCompiler.DIVIDE, 5);
        Check.due("compile() of a shorter program", Check.recompile(x, "func 0 { return 7 ;"), RegisterCompiler.SYNTAX);
        Check.due("place() is not taken from older tokens", x.place(), 6);
    }

    private static void answersTheirNumber() {
        Check.sentence("answers their number");
        RegisterCompiler x = new RegisterCompiler(2);
        Check.due("wipe() of nothing", x.wipe(), 0);
        for (int count : new int[] {1, 2, 42, 119, 120, 3}) {
            for (int i = 0; i < count; i++) {
                x.token(i % 42, 0);
            }
            Check.due("wipe() of " + count, x.wipe(), count);
            Check.due("wipe() again", x.wipe(), 0);
        }
        for (int i = 0; i < 125; i++) {
            x.token(9, 0);
        }
        Check.due("wipe() after 125 tries", x.wipe(), 120);
    }

    private static void whatWasCompiledStays() {
        Check.sentence("What was compiled stays");
        String program = "func 1 { return f3 ( v0 ) ; } func 0 { } func 2 { return v0 - v1 ; } func 1 { return 100 @/ v0 ; }";
        RegisterCompiler x = Check.compiled(program);
        Check.due("wipe()", x.wipe(), Check.count(program));
        Check.dueRun(x, 7, 0, 0, RegisterCompiler.DONE, 14);
        Check.dueRun(x, 0, 0, 0, RegisterCompiler.DIVIDE, Check.marked(program));
        Check.due("run(2, 9, 4, 0)", x.run(2, 9, 4, 0), RegisterCompiler.DONE);
        Check.due("result()", x.result(), 5);
        Check.due("run(3, 5, 0, 0)", x.run(3, 5, 0, 0), RegisterCompiler.DONE);
        Check.due("result()", x.result(), 20);
        Check.due("run(4, 5, 0, 0)", x.run(4, 5, 0, 0), RegisterCompiler.REFUSED);
    }

    /** What was compiled does not follow the tokens until they are compiled themselves. */
    private static void otherTokensLeaveWhatWasCompiledAlone() {
        Check.sentence("What was compiled stays");
        RegisterCompiler x = Check.compiled("func 1 { print 5 ; return v0 * v0 ; }");
        x.wipe();
        Check.feed(x, "func 0 { return 1 / 0 ; } func 0 { }");
        Check.dueRun(x, 8, 0, 0, RegisterCompiler.DONE, 64);
        Check.due("run(1, ..) before compile()", x.run(1, 0, 0, 0), RegisterCompiler.REFUSED);
        Check.due("compile()", x.compile(), RegisterCompiler.OK);
        Check.dueRun(x, 8, 0, 0, RegisterCompiler.DIVIDE, 5);
        Check.due("run(1, ..)", x.run(1, 0, 0, 0), RegisterCompiler.DONE);
        Check.due("wipe()", x.wipe(), 13);
    }

    private static void everythingElseStays() {
        Check.sentence("Removes all tokens");
        RegisterCompiler x = Check.compiled("func 1 { print 5 ; m [ 1 ] = v0 ; f1 ( ) ; return 9 / v0 ; } func 0 { }");
        Check.dueRun(x, 0, 0, 0, RegisterCompiler.DIVIDE, 19);
        x.wipe();
        Check.due("endedAt()", x.endedAt(), 19);
        Check.dueRun(x, 3, 0, 0, RegisterCompiler.DONE, 3);
        x.wipe();
        Check.due("result()", x.result(), 3);
        Check.due("used()", x.used(), 1);
        Check.dueOutput(x, 5);
        Check.due("memory(1)", x.memory(1), 3);
        Check.due("place()", x.place(), -1);
        Check.due("compile() of a loose break", Check.recompile(x, "func 0 { break ; }"), RegisterCompiler.LOOP);
        Check.due("wipe()", x.wipe(), 6);
        Check.due("place() of a fault", x.place(), 3);
    }

    private static void nothingCompiledStaysNothing() {
        Check.sentence("What was compiled stays");
        RegisterCompiler x = Check.fed("func 0 { }");
        x.wipe();
        Check.due("run of what was never compiled", x.run(0, 1, 1, 1), RegisterCompiler.REFUSED);
        Check.feed(x, "func 0 { } }");
        Check.due("compile()", x.compile(), RegisterCompiler.SYNTAX);
        x.wipe();
        Check.due("run after a compile() that failed", x.run(0, 1, 1, 1), RegisterCompiler.REFUSED);
    }
}
