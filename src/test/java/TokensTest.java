import java.util.Set;
import java.util.TreeSet;

/** What the document's "Terms" say of tokens. */
public final class TokensTest {
    private static final int[] ODD = {Check.MIN, -1, 1, 4, 6, 42, 1000, Check.MAX};

    public static void main(String[] args) {
        anyNumber();
        everyVariable();
        everyCall();
        otherValuesAreNotLookedAt();
        numbersAreTakenAsTheyAre();
        Check.finish();
    }

    private static void anyNumber() {
        Check.sentence("0 NUM (any int)");
        for (int number : new int[] {Check.MIN, Check.MIN + 1, -65536, -1, 0, 1, 16, 255, 65536, Check.MAX - 1, Check.MAX}) {
            Check.dueValue("" + number, 5, 5, 5, number);
            Check.dueValue("v0 + " + number, 1, 5, 5, number + 1);
            Check.dueResult("func 0 { v0 = " + number + " ; m [ 3 ] = v0 ; return m [ 3 ] ; }", 0, 0, 0, number);
            RegisterCompiler x = Check.dueResult("func 0 { print " + number + " ; f1 ( " + number + " ) ; }"
                    + " func 1 { print v0 ; }", 0, 0, 0, 0);
            Check.dueOutput(x, number, number);
        }
    }

    private static void everyVariable() {
        Check.sentence("1 VAR (0..5)");
        StringBuilder program = new StringBuilder("func 3 { ");
        for (int v = 0; v <= 5; v++) {
            program.append("v").append(v).append(" = v").append(v).append(" + ").append(10 * v).append(" ; ");
        }
        for (int v = 5; v >= 0; v--) {
            program.append("print v").append(v).append(" ; ");
        }
        RegisterCompiler x = Check.dueResult(program + "}", 1, 2, 3, 0);
        Check.dueOutput(x, 50, 40, 30, 23, 12, 1);
    }

    private static void everyCall() {
        Check.sentence("2 CALL (a function's number 0..3)");
        RegisterCompiler x = Check.dueResult("func 1 { if ( v0 ) return 5 ;"
                + " return f3 ( ) * 1000 + f2 ( ) * 100 + f1 ( ) * 10 + f0 ( 1 ) ; }"
                + " func 0 { return 6 ; } func 0 { return 7 ; } func 0 { return 8 ; }", 0, 0, 0, 8765);
        Check.due("used()", x.used(), 4);
    }

    private static void otherValuesAreNotLookedAt() {
        Check.sentence("value (looked at for 0, 1, 2 alone)");
        String program = "func 2 { v2 = ( v0 + 3 ) * 2 - v1 / 2 % 5 ; m [ 1 ] = v2 << 3 >> 1 >>> 1 ; while ( v2 > 9 && v1 != 0 ) {"
                + " v2 = v2 - 1 ; if ( v2 == 11 || v2 < 2 ) break ; else continue ; } print ! v0 | ~ v1 ^ 6 & m [ 1 ] ;"
                + " f1 ( v0 , v2 ) ; return v2 <= v1 ; } func 2 { return v0 >= v1 ; }";
        Set<Integer> kinds = new TreeSet<>();
        RegisterCompiler plain = Check.dueResult(program, 5, 7, 0, 0);
        for (int odd : ODD) {
            RegisterCompiler x = new RegisterCompiler(3);
            for (String word : Check.words(program)) {
                int kind = Check.kind(word);
                kinds.add(kind);
                Check.due("token", x.token(kind, kind > 2 ? odd : Check.value(word)), true);
            }
            Check.due("compile() with values " + odd, x.compile(), RegisterCompiler.OK);
            Check.dueRun(x, 5, 7, 0, RegisterCompiler.DONE, plain.result());
            Check.due("used()", x.used(), plain.used());
            Check.dueOutput(x, plain.output(0));
            Check.due("memory(1)", x.memory(1), plain.memory(1));
        }
        Check.due("kinds of tokens that were used", kinds.size(), 42);
    }

    /** A NUM is never taken for a sign of its own, whatever its value is. */
    private static void numbersAreTakenAsTheyAre() {
        Check.sentence("kind and value");
        for (int number = 0; number <= 41; number++) {
            Check.dueCompile("func 0 { return 1 @" + number + " 1 ; }", RegisterCompiler.SYNTAX);
            Check.dueValue("" + number, 0, 0, 0, number);
        }
    }
}
