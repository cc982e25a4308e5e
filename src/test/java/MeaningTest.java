/** What the document's "Terms" say of the meaning of a program. */
public final class MeaningTest {
    private static final int MIN = Integer.MIN_VALUE;
    private static final int MAX = Integer.MAX_VALUE;
    private static final int DONE = RegisterCompiler.DONE;

    public static void main(String[] args) {
        operators();
        divisions();
        shifts();
        grouping();
        eachOperatorAgainstEachOther();
        shortCircuits();
        elementOrder();
        faultOrder();
        leftToRight();
        nearestIf();
        variablesOfACall();
        valuesThatAreNotUsed();
        nestedLoops();
        deepExpressions();
        Check.finish();
    }

    private static void operators() {
        Check.dueValue("v0 + v1", MAX, 1, 0, MIN);
        Check.dueValue("v0 - v1", MIN, 1, 0, MAX);
        Check.dueValue("v0 * v1", 65536, 65536, 0, 0);
        Check.dueValue("- v0", MIN, 0, 0, MIN);
        Check.dueValue("~ v0", MIN, 0, 0, MAX);
        Check.dueValue("! v0 + 10 * ! v1 + 100 * ! v2", 0, 5, MIN, 1);
        Check.dueValue("- - ! ! ~ v0", 5, 0, 0, 1);
        Check.dueValue("v0 | v1", 12, 10, 0, 14);
        Check.dueValue("v0 ^ v1", 12, 10, 0, 6);
        Check.dueValue("v0 & v1", 12, 10, 0, 8);
        int[][] pairs = {{3, 3}, {-3, 3}, {3, -3}, {MIN, MAX}, {MAX, MIN}, {0, -1}};
        for (int[] pair : pairs) {
            int a = pair[0];
            int b = pair[1];
            Check.dueValue("v0 == v1", a, b, 0, a == b ? 1 : 0);
            Check.dueValue("v0 != v1", a, b, 0, a != b ? 1 : 0);
            Check.dueValue("v0 < v1", a, b, 0, a < b ? 1 : 0);
            Check.dueValue("v0 > v1", a, b, 0, a > b ? 1 : 0);
            Check.dueValue("v0 <= v1", a, b, 0, a <= b ? 1 : 0);
            Check.dueValue("v0 >= v1", a, b, 0, a >= b ? 1 : 0);
        }
    }

    private static void divisions() {
        Check.dueValue("v0 / v1", 7, -2, 0, -3);
        Check.dueValue("v0 / v1", -7, 2, 0, -3);
        Check.dueValue("v0 % v1", 7, -2, 0, 1);
        Check.dueValue("v0 % v1", -7, 2, 0, -1);
        Check.dueValue("v0 / v1", MIN, -1, 0, MIN);
        Check.dueValue("v0 % v1", MIN, -1, 0, 0);
        Check.dueValue("v0 / v1", 0, 5, 0, 0);
        RegisterCompiler x = Check.compiled("func 2 { return 100 / v0 % v1 ; }");
        Check.dueRun(x, 0, 0, 0, RegisterCompiler.DIVIDE, 5);
        Check.dueRun(x, 3, 0, 0, RegisterCompiler.DIVIDE, 7);
        Check.dueRun(x, 3, 7, 0, DONE, 5);
    }

    private static void shifts() {
        Check.dueValue("v0 << v1", 1, 33, 0, 2);
        Check.dueValue("v0 << v1", 1, -1, 0, MIN);
        Check.dueValue("v0 >> v1", MIN, 31, 0, -1);
        Check.dueValue("v0 >> v1", -8, 32, 0, -8);
        Check.dueValue("v0 >>> v1", MIN, 31, 0, 1);
        Check.dueValue("v0 >>> v1", -1, 36, 0, 0x0fffffff);
        Check.dueValue("v0 >>> v1", -1, 64, 0, -1);
    }

    private static void grouping() {
        Check.dueValue("v0 - v1 - v2", 10, 3, 2, 5);
        Check.dueValue("v0 / v1 * v2", 7, 2, 3, 9);
        Check.dueValue("v0 % v1 * v2", 7, 4, 3, 9);
        Check.dueValue("v0 << v1 >> v2", 1, 4, 2, 4);
        Check.dueValue("v0 < v1 < v2", 3, 2, 1, 1);
        Check.dueValue("v0 == v1 != v2", 4, 4, 1, 0);
        Check.dueValue("v0 - ( v1 - v2 )", 10, 3, 2, 9);
        Check.dueValue("- v0 * v1", 2, 3, 0, -6);
        Check.dueValue("- v0 - - v1", 2, 3, 0, 1);
        Check.dueValue("! v0 == v1", 0, 1, 0, 1);
        Check.dueValue("! ( v0 == v1 )", 0, 1, 0, 1);
        Check.dueValue("~ v0 & v1", 1, 7, 0, 6);
        Check.dueValue("v0 | v1 ^ v2 & 6 == 6 < 7 << 1 + 2 * 3", 8, 4, 3, 8 | (4 ^ (3 & 0)));
        Check.dueValue("2 * 3 + 1 << 2 < 29 == 1 & 3 ^ 2 | 8 && 5 || 0", 0, 0, 0, 1);
    }

    /** With every pair of operators, a op b op c is held against the same with the due round brackets. */
    private static void eachOperatorAgainstEachOther() {
        String[][] levels = {{"||"}, {"&&"}, {"|"}, {"^"}, {"&"}, {"==", "!="}, {"<", ">", "<=", ">="},
            {"<<", ">>", ">>>"}, {"+", "-"}, {"*", "/", "%"}};
        int[][] values = {{9, 2, 1}, {-7, 3, 5}, {1, 1, 2}, {0, 6, 3}, {12, 1, 7}};
        for (int first = 0; first < levels.length; first++) {
            for (int second = 0; second < levels.length; second++) {
                for (String left : levels[first]) {
                    for (String right : levels[second]) {
                        String plain = "v0 " + left + " v1 " + right + " v2";
                        String grouped = first >= second
                                ? "( v0 " + left + " v1 ) " + right + " v2" : "v0 " + left + " ( v1 " + right + " v2 )";
                        sameValue(plain, grouped, values);
                    }
                }
            }
        }
    }

    private static void sameValue(String plain, String grouped, int[][] values) {
        RegisterCompiler x = Check.compiled("func 3 { return " + plain + " ; } func 3 { return " + grouped + " ; }");
        for (int[] value : values) {
            int ended = x.run(0, value[0], value[1], value[2]);
            int result = x.result();
            Check.due(grouped + " against " + plain, x.run(1, value[0], value[1], value[2]), ended);
            Check.due(grouped + " against " + plain, x.result(), result);
        }
    }

    private static void shortCircuits() {
        RegisterCompiler x = Check.compiled("func 3 { v5 = f1 ( v0 ) && f1 ( v1 ) || f1 ( v2 ) ; return v5 ; }"
                + " func 1 { print v0 ; return v0 ; }");
        int[][] cases = {{0, 9, 0, 0, 2}, {0, 9, 4, 1, 2}, {5, 0, 0, 0, 3}, {5, 0, -1, 1, 3}, {5, MIN, 7, 1, 2}};
        for (int[] one : cases) {
            Check.dueRun(x, one[0], one[1], one[2], DONE, one[3]);
            Check.due("printed()", x.printed(), one[4]);
        }
        Check.dueValue("v0 && 1 / 0", 0, 0, 0, 0);
        Check.dueValue("v0 || m [ 99 ]", 8, 0, 0, 1);
        Check.dueValue("( v0 || v1 ) + ( v0 && v1 )", 8, 6, 0, 2);
        Check.dueValue("v0 && v1 && v2", 2, 4, 8, 1);
        Check.dueValue("v0 || v1 || v2", 0, 0, 8, 1);
        Check.dueValue("v0 || v1 && 1 / 0", 3, 0, 0, 1);
        Check.dueValue("v0 && ( v1 || 1 / 0 ) && v2 == 2", 1, 2, 2, 1);
        Check.dueValue("3 + ( v0 && v1 ) * 10 + ( v2 || v0 )", 0, 1, 0, 3);
    }

    /** In m [ e ] = f the index is tested after f was evaluated. */
    private static void elementOrder() {
        RegisterCompiler x = Check.compiled("func 2 { m [ f1 ( v0 ) ] = f1 ( v1 ) ; return m [ f1 ( v0 ) ] + m [ v1 ] ; }"
                + " func 1 { print v0 ; m [ 0 ] = 50 ; return v0 ; }");
        Check.dueRun(x, 0, 15, 0, DONE, 50);
        Check.due("printed()", x.printed(), 3);
        Check.due("memory(0)", x.memory(0), 50);
        Check.dueRun(x, 1, 16, 0, RegisterCompiler.INDEX, 25);
        Check.due("memory(1)", x.memory(1), 16);
        Check.dueRun(x, 16, 1, 0, RegisterCompiler.INDEX, 3);
        Check.due("printed() before the index was tested", x.printed(), 2);
        RegisterCompiler y = Check.compiled("func 1 { m [ m [ v0 ] ] = 1 / 0 ; }");
        Check.dueRun(y, 0, 0, 0, RegisterCompiler.DIVIDE, 12);
        Check.dueRun(y, 16, 0, 0, RegisterCompiler.INDEX, 5);
        y.store(2, MIN);
        Check.dueRun(y, 2, 0, 0, RegisterCompiler.DIVIDE, 12);
    }

    /** Arguments come before the depth, and the depth before the tick. */
    private static void faultOrder() {
        RegisterCompiler x = Check.compiled("func 1 { m [ 0 ] = m [ 0 ] + 1 ; f0 ( 1 / ( v0 - m [ 0 ] ) + v0 ) ; }");
        Check.dueRun(x, 100, 0, 0, RegisterCompiler.DEEP, 15);
        x.store(0, 0);
        Check.dueRun(x, 1, 0, 0, RegisterCompiler.DIVIDE, 18);
        RegisterCompiler y = Check.compiled("func 0 { m [ 0 ] = m [ 0 ] + 1 ; f0 ( ) ; }");
        Check.dueRun(y, 0, 0, 0, RegisterCompiler.DEEP, 15);
        Check.due("calls made", y.memory(0), 8);
    }

    private static void leftToRight() {
        RegisterCompiler x = Check.compiled("func 0 { return f1 ( f2 ( 1 ) , f2 ( 2 ) , f2 ( 3 ) ) - f2 ( 4 ) * f2 ( 5 ) ; }"
                + " func 3 { return v0 * 100 + v1 * 10 + v2 ; } func 1 { print v0 ; m [ 1 ] = m [ 1 ] * 10 + v0 ; return v0 ; }");
        Check.dueRun(x, 0, 0, 0, DONE, 123 - 20);
        Check.due("the order of evaluation", x.memory(1), 12345);
        Check.due("printed()", x.printed(), 5);
        RegisterCompiler y = Check.compiled("func 1 { return v0 + f1 ( ) + m [ 0 ] ; } func 0 { m [ 0 ] = 7 ; v0 = 99 ; return 1 ; }");
        Check.dueRun(y, 40, 0, 0, DONE, 48);
    }

    private static void nearestIf() {
        RegisterCompiler x = Check.compiled("func 2 { if ( v0 ) if ( v1 ) return 1 ; else return 2 ; return 3 ; }");
        Check.dueRun(x, 0, 0, 0, DONE, 3);
        Check.dueRun(x, 1, 0, 0, DONE, 2);
        Check.dueRun(x, 1, 1, 0, DONE, 1);
        RegisterCompiler y = Check.compiled("func 2 { if ( v0 ) if ( v1 ) v2 = 1 ; else v2 = 2 ; else v2 = 4 ; return v2 ; }");
        Check.dueRun(y, 0, 0, 0, DONE, 4);
        Check.dueRun(y, 1, 0, 0, DONE, 2);
        Check.dueRun(y, 1, 1, 0, DONE, 1);
        RegisterCompiler z = Check.compiled(
                "func 2 { if ( v0 ) while ( v1 ) if ( v1 > 1 ) v1 = v1 - 2 ; else return 9 ; else return 8 ; return 7 ; }");
        Check.dueRun(z, 0, 5, 0, DONE, 8);
        Check.dueRun(z, 1, 5, 0, DONE, 9);
        Check.dueRun(z, MIN, 4, 0, DONE, 7);
    }

    private static void variablesOfACall() {
        for (int registers = 0; registers <= 7; registers++) {
            RegisterCompiler x = new RegisterCompiler(registers);
            Check.feed(x, "func 2 { v2 = 3 ; v3 = 4 ; v4 = 5 ; v5 = 6 ; v2 = v2 * f1 ( v1 ) ; return v0 + v1 + v2 + v3 + v4 + v5 ; }"
                    + " func 1 { v3 = v1 | v2 | v3 | v4 | v5 ; v1 = 9 ; v2 = 9 ; v4 = 9 ; v5 = 9 ; return v0 - v3 ; }");
            Check.due("compile()", x.compile(), RegisterCompiler.OK);
            Check.dueRun(x, 100, 20, 0, DONE, 100 + 20 + 60 + 15);
        }
    }

    /** A call as a statement, and a function without a return, leave the values that wait alone. */
    private static void valuesThatAreNotUsed() {
        RegisterCompiler x = Check.compiled("func 0 { return 10 - f1 ( ) * 2 ; } func 0 { f2 ( ) ; f2 ( ) ; return 3 ; } func 0 { return 50 ; }");
        Check.dueRun(x, 0, 0, 0, DONE, 4);
        RegisterCompiler y = Check.compiled("func 0 { return 10 - f1 ( ) ; } func 0 { v0 = 6 ; }");
        Check.dueRun(y, 0, 0, 0, DONE, 10);
    }

    private static void nestedLoops() {
        RegisterCompiler x = Check.compiled("func 2 { while ( v0 > 0 ) { v0 = v0 - 1 ; v2 = 0 ; while ( v2 < 9 ) { v2 = v2 + 1 ;"
                + " if ( v2 == v1 ) break ; if ( v2 & 1 ) continue ; print v0 * 10 + v2 ; } if ( v0 == 1 ) break ; } return v0 ; }");
        Check.dueRun(x, 3, 5, 0, DONE, 1);
        int[] due = {22, 24, 12, 14};
        Check.due("printed()", x.printed(), due.length);
        for (int k = 0; k < due.length; k++) {
            Check.due("output(" + k + ")", x.output(k), due[k]);
        }
        Check.due("used()", x.used(), 2 * (1 + 5));
    }

    /** As many values as fit wait in each of the eight calls. */
    private static void deepExpressions() {
        StringBuilder words = new StringBuilder("func 1 { if ( v0 ) return ");
        int open = 0;
        for (int used = 8; used + 3 + 1 + 9 < 120; used += 4) {
            words.append("1 + ( ");
            open++;
        }
        words.append("f0 ( v0 - 1 ) ");
        for (int i = 0; i < open; i++) {
            words.append(") ");
        }
        RegisterCompiler x = Check.compiled(words + "; }");
        for (int again = 0; again < 20; again++) {
            Check.dueRun(x, 7, 0, 0, DONE, 7 * open);
            Check.dueRun(x, 8, 0, 0, RegisterCompiler.DEEP, 8 + 3 * open);
        }
    }
}
