import java.lang.reflect.Constructor;
import java.lang.reflect.Field;
import java.lang.reflect.Method;
import java.lang.reflect.Modifier;
import java.util.Arrays;
import java.util.Set;
import java.util.TreeSet;

/** Promise 1 and the public face. */
public final class Promise01NewObjectTest {
    private static final int[] REGISTERS = {Check.MIN, -1, 0, 1, 2, 3, 4, 5, 6, 7, 100, Check.MAX};

    public static void main(String[] args) {
        noTokens();
        nothingCompiled();
        allElementsAreZero();
        noRunAndNoPlace();
        registersChangeNoAnswer();
        registersHoldTheValuesOfAFunction();
        objectsShareNothing();
        constants();
        face();
        Check.finish();
    }

    private static void noTokens() {
        Check.sentence("No tokens");
        for (int registers : REGISTERS) {
            Check.due("new wipe()", new RegisterCompiler(registers).wipe(), 0);
            RegisterCompiler x = new RegisterCompiler(registers);
            Check.due("new compile()", x.compile(), RegisterCompiler.SYNTAX);
            Check.due("new compile(), place()", x.place(), 0);
        }
    }

    private static void nothingCompiled() {
        Check.sentence("nothing compiled");
        for (int registers : REGISTERS) {
            RegisterCompiler x = new RegisterCompiler(registers);
            for (int f = -1; f <= 4; f++) {
                Check.due("new run(" + f + ", ..)", x.run(f, 1, 2, 3), RegisterCompiler.REFUSED);
            }
            Check.feed(x, "func 0 { }");
            Check.due("run of what was not compiled", x.run(0, 1, 2, 3), RegisterCompiler.REFUSED);
        }
    }

    private static void allElementsAreZero() {
        Check.sentence("m all 0");
        for (int registers : REGISTERS) {
            RegisterCompiler x = new RegisterCompiler(registers);
            for (int i = -1; i <= 16; i++) {
                Check.due("new memory(" + i + ")", x.memory(i), 0);
            }
            Check.feed(x, "func 0 { while ( v0 < 16 ) { v1 = v1 | m [ v0 ] ; v0 = v0 + 1 ; } return v1 ; }");
            Check.due("compile()", x.compile(), RegisterCompiler.OK);
            Check.dueRun(x, 0, 0, 0, RegisterCompiler.DONE, 0);
        }
    }

    private static void noRunAndNoPlace() {
        Check.sentence("if there was none");
        for (int registers : REGISTERS) {
            RegisterCompiler x = new RegisterCompiler(registers);
            Check.due("new place()", x.place(), -1);
            Check.due("new result()", x.result(), 0);
            Check.due("new endedAt()", x.endedAt(), -1);
            Check.due("new used()", x.used(), 0);
            Check.dueOutput(x);
        }
    }

    /** Every kind of end, many waiting values, recursion and all variables, over every number of registers. */
    private static void registersChangeNoAnswer() {
        Check.sentence("below 1 becomes 1, above 6 becomes 6 (no answer depends on it)");
        String program = "func 3 { v3 = v0 + v1 * ( v2 - ( v0 ^ ( v1 | v2 << f1 ( v0 , v1 ) ) ) ) ; v4 = v3 ; v5 = v4 - v0 ;"
                + " print v5 ; print v3 ; m [ v2 ] = v4 % v1 ; if ( v0 < 0 ) while ( v4 ) v5 = v5 + 1 ; return v5 - v4 + v2 ; }"
                + " func 2 { v5 = v0 ; v4 = v1 ; if ( v0 > 0 ) v3 = f1 ( v0 - 1 , v4 ) ; return v5 + v4 - v3 ; }";
        int[][] cases = {
            {1, 2, 3, RegisterCompiler.DONE}, {5, -6, 7, RegisterCompiler.DONE}, {6, 1, 0, RegisterCompiler.DONE},
            {6, 0, 1, RegisterCompiler.DIVIDE}, {6, 1, 16, RegisterCompiler.INDEX}, {7, 5, 3, RegisterCompiler.DEEP},
            {-1, 4, 15, RegisterCompiler.STOPPED}};
        for (int[] given : cases) {
            RegisterCompiler one = Check.compiled(1, program);
            one.run(0, given[0], given[1], given[2]);
            for (int registers : REGISTERS) {
                RegisterCompiler x = Check.compiled(registers, program);
                Check.due("run with " + registers + " registers", x.run(0, given[0], given[1], given[2]), given[3]);
                sameAnswers("with " + registers + " registers", x, one);
            }
        }
    }

    private static void sameAnswers(String what, RegisterCompiler x, RegisterCompiler one) {
        Check.due("result() " + what, x.result(), one.result());
        Check.due("endedAt() " + what, x.endedAt(), one.endedAt());
        Check.due("used() " + what, x.used(), one.used());
        Check.due("printed() " + what, x.printed(), one.printed());
        Check.due("output(0) " + what, x.output(0), one.output(0));
        Check.due("output(1) " + what, x.output(1), one.output(1));
        for (int i = 0; i < 16; i++) {
            Check.due("memory(" + i + ") " + what, x.memory(i), one.memory(i));
        }
    }

    private static void registersHoldTheValuesOfAFunction() {
        Check.sentence("registers for the values of a function");
        for (int registers : REGISTERS) {
            RegisterCompiler x = Check.compiled(registers,
                    "func 3 { v3 = 4 ; v4 = 5 ; v5 = 6 ; v3 = v3 + f1 ( v2 , v1 , v0 ) ;"
                    + " return v0 + 10 * v1 + 100 * v2 + 1000 * v3 + 10000 * v4 + 100000 * v5 ; }"
                    + " func 3 { v3 = v0 ; v4 = v1 ; v5 = v2 ; v0 = 9 ; v1 = 9 ; v2 = 9 ; return v3 - v4 - v5 ; }");
            Check.dueRun(x, 1, 2, 3, RegisterCompiler.DONE, 321 + 1000 * 4 + 50000 + 600000);
        }
    }

    private static void objectsShareNothing() {
        Check.sentence("A new object");
        RegisterCompiler x = Check.compiled("func 0 { m [ 2 ] = 5 ; print 8 ; return 3 ; }");
        RegisterCompiler y = Check.compiled("func 0 { return 1 / 0 ; }");
        Check.dueRun(x, 0, 0, 0, RegisterCompiler.DONE, 3);
        Check.due("memory(2) of another object", y.memory(2), 0);
        Check.due("printed() of another object", y.printed(), 0);
        Check.dueRun(y, 0, 0, 0, RegisterCompiler.DIVIDE, 5);
        Check.due("result() of the first object", x.result(), 3);
    }

    private static void constants() {
        Check.sentence("The public face");
        Check.due("OK", RegisterCompiler.OK, 0);
        Check.due("SYNTAX", RegisterCompiler.SYNTAX, 1);
        Check.due("LOOP", RegisterCompiler.LOOP, 2);
        Check.due("UNKNOWN", RegisterCompiler.UNKNOWN, 3);
        Check.due("COUNT", RegisterCompiler.COUNT, 4);
        Check.due("NOTHING", RegisterCompiler.NOTHING, 5);
        Check.due("DONE", RegisterCompiler.DONE, 0);
        Check.due("DIVIDE", RegisterCompiler.DIVIDE, 1);
        Check.due("INDEX", RegisterCompiler.INDEX, 2);
        Check.due("DEEP", RegisterCompiler.DEEP, 3);
        Check.due("STOPPED", RegisterCompiler.STOPPED, 4);
        Check.due("REFUSED", RegisterCompiler.REFUSED, 5);
    }

    private static void face() {
        Class<?> type = RegisterCompiler.class;
        Set<String> seen = new TreeSet<>();
        for (Field field : type.getDeclaredFields()) {
            if (!Modifier.isPrivate(field.getModifiers())) {
                seen.add(field.getName());
            }
        }
        for (Constructor<?> made : type.getDeclaredConstructors()) {
            seen.add("new" + Arrays.toString(made.getParameterTypes()));
        }
        for (Method method : type.getDeclaredMethods()) {
            if (!Modifier.isPrivate(method.getModifiers())) {
                seen.add(method.getReturnType() + " " + method.getName() + Arrays.toString(method.getParameterTypes()));
            }
        }
        Set<String> due = new TreeSet<>(Set.of(
                "OK", "SYNTAX", "LOOP", "UNKNOWN", "COUNT", "NOTHING",
                "DONE", "DIVIDE", "INDEX", "DEEP", "STOPPED", "REFUSED", "new[int]",
                "boolean token[int, int]", "int wipe[]", "int compile[]", "int place[]",
                "int run[int, int, int, int]", "int result[]", "int endedAt[]", "int used[]",
                "int printed[]", "int output[int]", "int memory[int]", "boolean store[int, int]"));
        Check.due("the public face " + seen, seen.equals(due), true);
        Check.due("the class is final", Modifier.isFinal(type.getModifiers()), true);
    }
}
