import java.lang.reflect.Constructor;
import java.lang.reflect.Field;
import java.lang.reflect.Method;
import java.lang.reflect.Modifier;
import java.util.Arrays;
import java.util.Set;
import java.util.TreeSet;

/** Promise 1 and the public face. */
public final class Promise01NewObjectTest {
    public static void main(String[] args) {
        for (int registers : new int[] {Integer.MIN_VALUE, -1, 0, 1, 2, 3, 4, 5, 6, 7, 100, Integer.MAX_VALUE}) {
            newObjectIsEmpty(registers);
            registersChangeNoAnswer(registers);
        }
        objectsShareNothing();
        constants();
        face();
        Check.finish();
    }

    private static void newObjectIsEmpty(int registers) {
        RegisterCompiler x = new RegisterCompiler(registers);
        for (int i = -1; i <= 16; i++) {
            Check.due("new memory(" + i + ")", x.memory(i), 0);
        }
        Check.due("new place()", x.place(), -1);
        Check.due("new run", x.run(0, 1, 2, 3), RegisterCompiler.REFUSED);
        Check.due("new result()", x.result(), 0);
        Check.due("new endedAt()", x.endedAt(), -1);
        Check.due("new used()", x.used(), 0);
        Check.due("new printed()", x.printed(), 0);
        Check.due("new output(0)", x.output(0), 0);
        Check.due("new wipe()", x.wipe(), 0);
        Check.due("new compile()", x.compile(), RegisterCompiler.SYNTAX);
        Check.due("new compile(), place()", x.place(), 0);
    }

    private static void registersChangeNoAnswer(int registers) {
        RegisterCompiler x = new RegisterCompiler(registers);
        Check.feed(x, "func 3 { v3 = 4 ; v4 = 5 ; v5 = 6 ; v3 = v3 + f1 ( v2 , v1 , v0 ) ;"
                + " return v0 + 10 * v1 + 100 * v2 + 1000 * v3 + 10000 * v4 + 100000 * v5 ; }"
                + " func 3 { v3 = v0 ; v4 = v1 ; v5 = v2 ; v0 = 9 ; v1 = 9 ; v2 = 9 ; return v3 - v4 - v5 ; }");
        Check.due("compile()", x.compile(), RegisterCompiler.OK);
        Check.dueRun(x, 1, 2, 3, RegisterCompiler.DONE, 321 + 1000 * 4 + 50000 + 600000);
    }

    private static void objectsShareNothing() {
        RegisterCompiler x = Check.compiled("func 0 { m [ 2 ] = 5 ; print 8 ; return 3 ; }");
        RegisterCompiler y = Check.compiled("func 0 { return 1 / 0 ; }");
        Check.dueRun(x, 0, 0, 0, RegisterCompiler.DONE, 3);
        Check.due("memory(2) of another object", y.memory(2), 0);
        Check.due("printed() of another object", y.printed(), 0);
        Check.dueRun(y, 0, 0, 0, RegisterCompiler.DIVIDE, 5);
        Check.due("result() of the first object", x.result(), 3);
    }

    private static void constants() {
        Check.due("OK", RegisterCompiler.OK, 0);
        Check.due("SYNTAX", RegisterCompiler.SYNTAX, 1);
        Check.due("LOOP", RegisterCompiler.LOOP, 2);
        Check.due("UNKNOWN", RegisterCompiler.UNKNOWN, 3);
        Check.due("COUNT", RegisterCompiler.COUNT, 4);
        Check.due("NOTHING", RegisterCompiler.NOTHING, 5);
        Check.due("DONE", RegisterCompiler.DONE, 0);
        Check.due("DIVIDE", RegisterCompiler.DIVIDE, 1);
        Check.due("INDEX", RegisterCompiler.INDEX, 2);
        Check.due("DEEP", RegisterCompiler.DEEP, 3);
        Check.due("STOPPED", RegisterCompiler.STOPPED, 4);
        Check.due("REFUSED", RegisterCompiler.REFUSED, 5);
    }

    private static void face() {
        Class<?> type = RegisterCompiler.class;
        Set<String> seen = new TreeSet<>();
        for (Field field : type.getDeclaredFields()) {
            if (!Modifier.isPrivate(field.getModifiers())) {
                seen.add(field.getName());
            }
        }
        for (Constructor<?> made : type.getDeclaredConstructors()) {
            seen.add("new" + Arrays.toString(made.getParameterTypes()));
        }
        for (Method method : type.getDeclaredMethods()) {
            if (!Modifier.isPrivate(method.getModifiers())) {
                seen.add(method.getReturnType() + " " + method.getName() + Arrays.toString(method.getParameterTypes()));
            }
        }
        Set<String> due = new TreeSet<>(Set.of(
                "OK", "SYNTAX", "LOOP", "UNKNOWN", "COUNT", "NOTHING",
                "DONE", "DIVIDE", "INDEX", "DEEP", "STOPPED", "REFUSED", "new[int]",
                "boolean token[int, int]", "int wipe[]", "int compile[]", "int place[]",
                "int run[int, int, int, int]", "int result[]", "int endedAt[]", "int used[]",
                "int printed[]", "int output[int]", "int memory[int]", "boolean store[int, int]"));
        Check.due("the public face " + seen, seen.equals(due), true);
        Check.due("the class is final", Modifier.isFinal(type.getModifiers()), true);
    }
}
