/** What the document's "Terms" say of values, operators and the order in which they are evaluated. */
public final class MeaningValuesTest {
    private static final int MIN = Integer.MIN_VALUE;
    private static final int MAX = Integer.MAX_VALUE;
    private static final int DONE = RegisterCompiler.DONE;

    public static void main(String[] args) {
        operators();
        theyWrap();
        onesAndZeros();
        whatCountsAsTrue();
        divisions();
        theSmallestByMinusOne();
        shifts();
        theLowFiveBits();
        zerosAreBroughtIn();
        grouping();
        eachOperatorAgainstEachOther();
        unaryOperators();
        shortCircuits();
        theRightSideOnlyIfNeeded();
        leftToRight();
        leftToRightWithEveryOperator();
        nearestIf();
        nestedLoops();
        deepExpressions();
        Check.finish();
    }

    private static void operators() {
        Check.sentence("MEANING");
        Check.dueValue("v0 + v1", MAX, 1, 0, MIN);
        Check.dueValue("v0 - v1", MIN, 1, 0, MAX);
        Check.dueValue("v0 * v1", 65536, 65536, 0, 0);
        Check.dueValue("- v0", MIN, 0, 0, MIN);
        Check.dueValue("~ v0", MIN, 0, 0, MAX);
        Check.dueValue("! v0 + 10 * ! v1 + 100 * ! v2", 0, 5, MIN, 1);
        Check.dueValue("- - ! ! ~ v0", 5, 0, 0, 1);
        Check.dueValue("v0 | v1", 12, 10, 0, 14);
        Check.dueValue("v0 ^ v1", 12, 10, 0, 6);
        Check.dueValue("v0 & v1", 12, 10, 0, 8);
        int[][] pairs = {{3, 3}, {-3, 3}, {3, -3}, {MIN, MAX}, {MAX, MIN}, {0, -1}};
        for (int[] pair : pairs) {
            int a = pair[0];
            int b = pair[1];
            Check.dueValue("v0 == v1", a, b, 0, a == b ? 1 : 0);
            Check.dueValue("v0 != v1", a, b, 0, a != b ? 1 : 0);
            Check.dueValue("v0 < v1", a, b, 0, a < b ? 1 : 0);
            Check.dueValue("v0 > v1", a, b, 0, a > b ? 1 : 0);
            Check.dueValue("v0 <= v1", a, b, 0, a <= b ? 1 : 0);
            Check.dueValue("v0 >= v1", a, b, 0, a >= b ? 1 : 0);
        }
    }

    private static void theyWrap() {
        Check.sentence("Ints of 32 bits that wrap");
        Check.dueValue("v0 + v1", MAX, 1, 0, MIN);
        Check.dueValue("v0 + v1", MIN, -1, 0, MAX);
        Check.dueValue("v0 + v1", MIN, MIN, 0, 0);
        Check.dueValue("v0 - v1", MIN, 1, 0, MAX);
        Check.dueValue("v0 - v1", 0, MIN, 0, MIN);
        Check.dueValue("v0 * v1", 65536, 65536, 0, 0);
        Check.dueValue("v0 * v1", MAX, MAX, 0, 1);
        Check.dueValue("v0 * v1", MIN, -1, 0, MIN);
        Check.dueValue("- v0", MIN, 0, 0, MIN);
        Check.dueValue("~ v0", MAX, 0, 0, MIN);
        Check.dueValue("v0 << v1", MAX, 1, 0, -2);
        Check.dueValue("v0 - v1 > 0", MIN, 1, 0, 1);
        Check.dueValue("v0 > v1", MIN, 1, 0, 0);
        Check.dueValue("v0 < v1", MIN, MAX, 0, 1);
    }

    private static void onesAndZeros() {
        Check.sentence("Comparisons, !, && and || give 1 or 0");
        String[] holds = {"v0 == v0", "v0 != v1", "v1 < v0", "v0 > v1", "v1 <= v0", "v0 >= v1", "v0 <= v0", "v0 >= v0",
            "! v2", "! ! v0", "v0 && v1", "v0 || v2", "v2 || v0", "v2 || v2 || v1", "v1 && v0 && v0"};
        String[] fails = {"v0 == v1", "v0 != v0", "v0 < v1", "v1 > v0", "v0 <= v1", "v1 >= v0", "v0 < v0", "v0 > v0",
            "! v0", "! ! v2", "v0 && v2", "v2 && v0", "v2 || v2", "v2 && v2"};
        for (String expression : holds) {
            Check.dueValue(expression, 6, -8, 0, 1);
        }
        for (String expression : fails) {
            Check.dueValue(expression, 6, -8, 0, 0);
        }
    }

    private static void whatCountsAsTrue() {
        Check.sentence("a value counts as true if it is not 0");
        for (int value : new int[] {MIN, MIN + 1, -2, -1, 0, 1, 2, 3, 256, 65536, 1 << 30, MAX}) {
            int truth = value != 0 ? 1 : 0;
            Check.dueValue("! v0", value, 0, 0, 1 - truth);
            Check.dueValue("v0 && 1", value, 0, 0, truth);
            Check.dueValue("1 && v0", value, 0, 0, truth);
            Check.dueValue("v0 || 0", value, 0, 0, truth);
            Check.dueValue("0 || v0", value, 0, 0, truth);
            Check.dueResult("func 1 { if ( v0 ) return 1 ; return 0 ; }", value, 0, 0, truth);
            Check.dueResult("func 1 { if ( v0 ) v1 = 1 ; else v1 = 2 ; return v1 ; }", value, 0, 0, 2 - truth);
            Check.dueResult("func 1 { while ( v0 ) return 1 ; return 0 ; }", value, 0, 0, truth);
        }
    }

    private static void divisions() {
        Check.sentence("/ cuts off towards zero");
        Check.dueValue("v0 / v1", 7, -2, 0, -3);
        Check.dueValue("v0 / v1", -7, 2, 0, -3);
        Check.dueValue("v0 % v1", 7, -2, 0, 1);
        Check.dueValue("v0 % v1", -7, 2, 0, -1);
        Check.dueValue("v0 / v1", MIN, -1, 0, MIN);
        Check.dueValue("v0 % v1", MIN, -1, 0, 0);
        Check.dueValue("v0 / v1", 0, 5, 0, 0);
        RegisterCompiler x = Check.compiled("func 2 { return 100 / v0 % v1 ; }");
        Check.dueRun(x, 0, 0, 0, RegisterCompiler.DIVIDE, 5);
        Check.dueRun(x, 3, 0, 0, RegisterCompiler.DIVIDE, 7);
        Check.dueRun(x, 3, 7, 0, DONE, 5);
    }

    private static void shifts() {
        Check.sentence("shifts take the low five bits of the right side");
        Check.dueValue("v0 << v1", 1, 33, 0, 2);
        Check.dueValue("v0 << v1", 1, -1, 0, MIN);
        Check.dueValue("v0 >> v1", MIN, 31, 0, -1);
        Check.dueValue("v0 >> v1", -8, 32, 0, -8);
        Check.dueValue("v0 >>> v1", MIN, 31, 0, 1);
        Check.dueValue("v0 >>> v1", -1, 36, 0, 0x0fffffff);
        Check.dueValue("v0 >>> v1", -1, 64, 0, -1);
    }

    private static void theSmallestByMinusOne() {
        Check.sentence("-2147483648 / -1 is -2147483648, the % of these 0");
        Check.dueValue("v0 / v1", MIN, -1, 0, MIN);
        Check.dueValue("v0 % v1", MIN, -1, 0, 0);
        Check.dueValue("-2147483648 / -1", 0, 0, 0, MIN);
        Check.dueValue("-2147483648 % -1", 0, 0, 0, 0);
        Check.dueValue("v0 / v1", MIN, 1, 0, MIN);
        Check.dueValue("v0 / v1", MAX, -1, 0, -MAX);
        Check.dueValue("v0 % v1", MIN, MAX, 0, -1);
        Check.dueValue("v0 / v1", MIN, MIN, 0, 1);
        Check.dueValue("v0 / v1", MAX, MIN, 0, 0);
        Check.dueValue("v0 % v1", MAX, MIN, 0, MAX);
    }

    private static void theLowFiveBits() {
        Check.sentence("shifts take the low five bits of the right side");
        int[][] counts = {{0, 0}, {1, 1}, {31, 31}, {32, 0}, {33, 1}, {63, 31}, {64, 0}, {-1, 31}, {-31, 1}, {-32, 0},
            {MIN, 0}, {MIN + 5, 5}, {MAX, 31}};
        for (int[] count : counts) {
            Check.dueValue("v0 << v1", 0x40000003, count[0], 0, 0x40000003 << count[1]);
            Check.dueValue("v0 >> v1", -0x40000003, count[0], 0, -0x40000003 >> count[1]);
            Check.dueValue("v0 >>> v1", -0x40000003, count[0], 0, -0x40000003 >>> count[1]);
        }
    }

    private static void zerosAreBroughtIn() {
        Check.sentence(">>> brings in zeros");
        Check.dueValue("v0 >>> 1", -1, 0, 0, MAX);
        Check.dueValue("v0 >>> 31", MIN, 0, 0, 1);
        Check.dueValue("v0 >>> 28", -1, 0, 0, 15);
        Check.dueValue("v0 >>> 1", MAX, 0, 0, MAX / 2);
        Check.dueValue("v0 >> 1", -1, 0, 0, -1);
        Check.dueValue("v0 >> 31", MIN, 0, 0, -1);
        Check.dueValue("v0 << 31", -1, 0, 0, MIN);
    }

    private static void grouping() {
        Check.sentence("from loosest to tightest, all grouping to the left");
        Check.dueValue("v0 - v1 - v2", 10, 3, 2, 5);
        Check.dueValue("v0 / v1 * v2", 7, 2, 3, 9);
        Check.dueValue("v0 % v1 * v2", 7, 4, 3, 9);
        Check.dueValue("v0 << v1 >> v2", 1, 4, 2, 4);
        Check.dueValue("v0 < v1 < v2", 3, 2, 1, 1);
        Check.dueValue("v0 == v1 != v2", 4, 4, 1, 0);
        Check.dueValue("v0 - ( v1 - v2 )", 10, 3, 2, 9);
        Check.dueValue("- v0 * v1", 2, 3, 0, -6);
        Check.dueValue("- v0 - - v1", 2, 3, 0, 1);
        Check.dueValue("! v0 == v1", 0, 1, 0, 1);
        Check.dueValue("! ( v0 == v1 )", 0, 1, 0, 1);
        Check.dueValue("~ v0 & v1", 1, 7, 0, 6);
        Check.dueValue("v0 | v1 ^ v2 & 6 == 6 < 7 << 1 + 2 * 3", 8, 4, 3, 8 | (4 ^ (3 & 0)));
        Check.dueValue("2 * 3 + 1 << 2 < 29 == 1 & 3 ^ 2 | 8 && 5 || 0", 0, 0, 0, 1);
    }

    /** With every pair of operators, a op b op c is held against the same with the due round brackets. */
    private static void eachOperatorAgainstEachOther() {
        Check.sentence("from loosest to tightest, all grouping to the left");
        String[][] levels = {{"||"}, {"&&"}, {"|"}, {"^"}, {"&"}, {"==", "!="}, {"<", ">", "<=", ">="},
            {"<<", ">>", ">>>"}, {"+", "-"}, {"*", "/", "%"}};
        int[][] values = {{9, 2, 1}, {-7, 3, 5}, {1, 1, 2}, {0, 6, 3}, {12, 1, 7}};
        for (int first = 0; first < levels.length; first++) {
            for (int second = 0; second < levels.length; second++) {
                for (String left : levels[first]) {
                    for (String right : levels[second]) {
                        String plain = "v0 " + left + " v1 " + right + " v2";
                        String grouped = first >= second
                                ? "( v0 " + left + " v1 ) " + right + " v2" : "v0 " + left + " ( v1 " + right + " v2 )";
                        sameValue(plain, grouped, values);
                    }
                }
            }
        }
    }

    private static void sameValue(String plain, String grouped, int[][] values) {
        RegisterCompiler x = Check.compiled("func 3 { return " + plain + " ; } func 3 { return " + grouped + " ; }");
        for (int[] value : values) {
            int ended = x.run(0, value[0], value[1], value[2]);
            int result = x.result();
            Check.due(grouped + " against " + plain, x.run(1, value[0], value[1], value[2]), ended);
            Check.due(grouped + " against " + plain, x.result(), result);
        }
    }

    private static void unaryOperators() {
        Check.sentence("unary = ( \"-\" | \"!\" | \"~\" ) unary");
        Check.dueValue("- ~ v0", 5, 0, 0, 6);
        Check.dueValue("~ - v0", 5, 0, 0, 4);
        Check.dueValue("! - v0", 5, 0, 0, 0);
        Check.dueValue("- ! v0", 0, 0, 0, -1);
        Check.dueValue("~ ! v0", 0, 0, 0, -2);
        Check.dueValue("v0 - - - v1", 5, 3, 0, 2);
        Check.dueValue("- v0 - v1", 5, 3, 0, -8);
        Check.dueValue("- v0 % v1", -7, 3, 0, 1);
        Check.dueValue("! v0 + v1", 0, 3, 0, 4);
        Check.dueValue("~ v0 * v1", 1, 3, 0, -6);
        Check.dueValue("- m [ v0 ] + - ( v1 + v2 )", 0, 3, 4, -7);
    }

    private static void shortCircuits() {
        Check.sentence("&& and || look at the right side only if they need it");
        RegisterCompiler x = Check.compiled("func 3 { v5 = f1 ( v0 ) && f1 ( v1 ) || f1 ( v2 ) ; return v5 ; }"
                + " func 1 { print v0 ; return v0 ; }");
        int[][] cases = {{0, 9, 0, 0, 2}, {0, 9, 4, 1, 2}, {5, 0, 0, 0, 3}, {5, 0, -1, 1, 3}, {5, MIN, 7, 1, 2}};
        for (int[] one : cases) {
            Check.dueRun(x, one[0], one[1], one[2], DONE, one[3]);
            Check.due("printed()", x.printed(), one[4]);
        }
        Check.dueValue("v0 && 1 / 0", 0, 0, 0, 0);
        Check.dueValue("v0 || m [ 99 ]", 8, 0, 0, 1);
        Check.dueValue("( v0 || v1 ) + ( v0 && v1 )", 8, 6, 0, 2);
        Check.dueValue("v0 && v1 && v2", 2, 4, 8, 1);
        Check.dueValue("v0 || v1 || v2", 0, 0, 8, 1);
        Check.dueValue("v0 || v1 && 1 / 0", 3, 0, 0, 1);
        Check.dueValue("v0 && ( v1 || 1 / 0 ) && v2 == 2", 1, 2, 2, 1);
        Check.dueValue("3 + ( v0 && v1 ) * 10 + ( v2 || v0 )", 0, 1, 0, 3);
    }

    private static void theRightSideOnlyIfNeeded() {
        Check.sentence("&& and || look at the right side only if they need it");
        RegisterCompiler x = Check.compiled("func 2 { return f1 ( v0 ) && f1 ( v1 ) ; } func 1 { print v0 ; return v0 ; }"
                + " func 2 { return f1 ( v0 ) || f1 ( v1 ) ; }");
        for (int a : new int[] {0, 5, -1}) {
            for (int b : new int[] {0, 7, MIN}) {
                Check.due("run of &&", x.run(0, a, b, 0), DONE);
                Check.due("result() of &&", x.result(), a != 0 && b != 0 ? 1 : 0);
                Check.due("printed() of &&", x.printed(), a != 0 ? 2 : 1);
                Check.due("used() of &&", x.used(), a != 0 ? 2 : 1);
                Check.due("run of ||", x.run(2, a, b, 0), DONE);
                Check.due("result() of ||", x.result(), a != 0 || b != 0 ? 1 : 0);
                Check.due("printed() of ||", x.printed(), a != 0 ? 1 : 2);
            }
        }
        Check.dueFault("func 1 { return v0 && 1 @/ 0 ; }", 1, 0, 0, RegisterCompiler.DIVIDE);
        Check.dueFault("func 1 { return v0 || 1 @/ 0 ; }", 0, 0, 0, RegisterCompiler.DIVIDE);
        Check.dueFault("func 1 { return 1 @/ v0 && 0 ; }", 0, 0, 0, RegisterCompiler.DIVIDE);
        Check.dueFault("func 1 { return @m [ v0 ] || 1 ; }", 16, 0, 0, RegisterCompiler.INDEX);
        Check.dueResult("func 1 { if ( v0 && m [ 99 ] ) return 1 ; while ( v0 && 1 / 0 ) { } return 2 ; }", 0, 0, 0, 2);
    }

    private static void leftToRight() {
        Check.sentence("Everything is evaluated from left to right");
        RegisterCompiler x = Check.compiled("func 0 { return f1 ( f2 ( 1 ) , f2 ( 2 ) , f2 ( 3 ) ) - f2 ( 4 ) * f2 ( 5 ) ; }"
                + " func 3 { return v0 * 100 + v1 * 10 + v2 ; } func 1 { print v0 ; m [ 1 ] = m [ 1 ] * 10 + v0 ; return v0 ; }");
        Check.dueRun(x, 0, 0, 0, DONE, 123 - 20);
        Check.due("the order of evaluation", x.memory(1), 12345);
        Check.due("printed()", x.printed(), 5);
        RegisterCompiler y = Check.compiled("func 1 { return v0 + f1 ( ) + m [ 0 ] ; } func 0 { m [ 0 ] = 7 ; v0 = 99 ; return 1 ; }");
        Check.dueRun(y, 40, 0, 0, DONE, 48);
    }

    private static void leftToRightWithEveryOperator() {
        Check.sentence("Everything is evaluated from left to right");
        for (String operator : Check.words("| ^ & == != < > <= >= << >> >>> + - * / %")) {
            RegisterCompiler x = Check.compiled("func 0 { v0 = f1 ( 5 ) " + operator + " f1 ( 3 ) " + operator + " f1 ( 1 ) ; }"
                    + " func 1 { print v0 ; return v0 ; }");
            x.run(0, 0, 0, 0);
            Check.due("output(0) of " + operator, x.output(0), 5);
            Check.due("output(1) of " + operator, x.output(1), 3);
        }
        Check.dueFault("func 1 { return 1 @/ v0 + m [ 16 ] ; }", 0, 0, 0, RegisterCompiler.DIVIDE);
        Check.dueFault("func 1 { return @m [ 16 ] + 1 / v0 ; }", 0, 0, 0, RegisterCompiler.INDEX);
        Check.dueFault("func 1 { return @m [ 16 ] / v0 ; }", 0, 0, 0, RegisterCompiler.INDEX);
        Check.dueFault("func 1 { return 1 / @m [ 16 ] ; }", 0, 0, 0, RegisterCompiler.INDEX);
        Check.dueFault("func 1 { return 1 + 2 @% v0 * m [ 16 ] ; }", 0, 0, 0, RegisterCompiler.DIVIDE);
        Check.dueFault("func 1 { return 1 / ( 2 @/ v0 ) ; }", 0, 0, 0, RegisterCompiler.DIVIDE);
        Check.dueFault("func 1 { return 1 @/ v0 / v0 ; }", 0, 0, 0, RegisterCompiler.DIVIDE);
    }

    private static void nearestIf() {
        Check.sentence("else belongs to the nearest if that can take it");
        RegisterCompiler x = Check.compiled("func 2 { if ( v0 ) if ( v1 ) return 1 ; else return 2 ; return 3 ; }");
        Check.dueRun(x, 0, 0, 0, DONE, 3);
        Check.dueRun(x, 1, 0, 0, DONE, 2);
        Check.dueRun(x, 1, 1, 0, DONE, 1);
        RegisterCompiler y = Check.compiled("func 2 { if ( v0 ) if ( v1 ) v2 = 1 ; else v2 = 2 ; else v2 = 4 ; return v2 ; }");
        Check.dueRun(y, 0, 0, 0, DONE, 4);
        Check.dueRun(y, 1, 0, 0, DONE, 2);
        Check.dueRun(y, 1, 1, 0, DONE, 1);
        RegisterCompiler z = Check.compiled(
                "func 2 { if ( v0 ) while ( v1 ) if ( v1 > 1 ) v1 = v1 - 2 ; else return 9 ; else return 8 ; return 7 ; }");
        Check.dueRun(z, 0, 5, 0, DONE, 8);
        Check.dueRun(z, 1, 5, 0, DONE, 9);
        Check.dueRun(z, MIN, 4, 0, DONE, 7);
    }

    private static void nestedLoops() {
        Check.sentence("a break or continue .. of its function");
        RegisterCompiler x = Check.compiled("func 2 { while ( v0 > 0 ) { v0 = v0 - 1 ; v2 = 0 ; while ( v2 < 9 ) { v2 = v2 + 1 ;"
                + " if ( v2 == v1 ) break ; if ( v2 & 1 ) continue ; print v0 * 10 + v2 ; } if ( v0 == 1 ) break ; } return v0 ; }");
        Check.dueRun(x, 3, 5, 0, DONE, 1);
        int[] due = {22, 24, 12, 14};
        Check.due("printed()", x.printed(), due.length);
        for (int k = 0; k < due.length; k++) {
            Check.due("output(" + k + ")", x.output(k), due[k]);
        }
        Check.due("used()", x.used(), 2 * (1 + 5));
    }

    /** As many values as fit wait in each of the eight calls. */
    private static void deepExpressions() {
        Check.sentence("Every call of a function has its own variables");
        StringBuilder words = new StringBuilder("func 1 { if ( v0 ) return ");
        int open = 0;
        for (int used = 8; used + 3 + 1 + 9 < 120; used += 4) {
            words.append("1 + ( ");
            open++;
        }
        words.append("f0 ( v0 - 1 ) ");
        for (int i = 0; i < open; i++) {
            words.append(") ");
        }
        RegisterCompiler x = Check.compiled(words + "; }");
        for (int again = 0; again < 20; again++) {
            Check.dueRun(x, 7, 0, 0, DONE, 7 * open);
            Check.dueRun(x, 8, 0, 0, RegisterCompiler.DEEP, 8 + 3 * open);
        }
    }
}
