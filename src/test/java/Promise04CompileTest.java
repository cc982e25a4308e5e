/** Promise 4: compile. */
public final class Promise04CompileTest {
    private static final int OK = RegisterCompiler.OK;
    private static final int SYNTAX = RegisterCompiler.SYNTAX;
    private static final int LOOP = RegisterCompiler.LOOP;
    private static final int UNKNOWN = RegisterCompiler.UNKNOWN;
    private static final int COUNT = RegisterCompiler.COUNT;

    public static void main(String[] args) {
        programs();
        functions();
        theNumberOfAFunc();
        aFifthFunc();
        everyPrefixMissesItsEnd();
        wrongStatements();
        wrongExpressions();
        elseParts();
        loops();
        loopsOfOtherFunctions();
        theFirstLooseJump();
        unknownCalls();
        everyCallOfEveryNumber();
        callsEverywhere();
        argumentCounts();
        theFirstKindOfFaultWins();
        nothingIsCompiledAfterAFault();
        tokensStay();
        nothingIsLeftOfTheCompileBefore();
        programsOfFullLength();
        Check.finish();
    }

    private static void programs() {
        Check.sentence("OK: the program is there");
        Check.dueCompile("func 0 { }", OK, -1);
        Check.dueCompile("func 3 { { } { { } } }", OK, -1);
        Check.dueCompile("func 0 { f0 ( ) ; v5 = m [ 0 ] ; m [ m [ 1 ] ] = - ! ~ 3 ; print ( v0 ) ; return 1 ; }", OK, -1);
        Check.dueCompile("func 0 { while ( 1 ) break ; if ( 1 ) { } else while ( 0 ) continue ; }", OK, -1);
    }

    private static void functions() {
        Check.sentence("program = func { func }");
        Check.dueCompile("", SYNTAX, 0);
        Check.dueCompile("{", SYNTAX, 0);
        Check.dueCompile("0", SYNTAX, 0);
        Check.dueCompile("func {", SYNTAX, 1);
        Check.dueCompile("func v0 { }", SYNTAX, 1);
        Check.dueCompile("func 4 { }", SYNTAX, 1);
        Check.dueCompile("func -1 { }", SYNTAX, 1);
        Check.dueCompile("func 2147483647 { }", SYNTAX, 1);
        Check.dueCompile("func 0 v0 = 1 ;", SYNTAX, 2);
        Check.dueCompile("func 0 { } }", SYNTAX, 4);
        Check.dueCompile("func 0 { } ;", SYNTAX, 4);
        Check.dueCompile("func 0 { func 0 { } }", SYNTAX, 3);
        Check.dueCompile("func 0 { } func 1 { } func 2 { } func 3 { }", OK, -1);
        Check.dueCompile("func 0 { } func 1 { } func 2 { } func 3 { } func 0 { }", SYNTAX, 16);
        Check.dueCompile("func 0 { } func 1 { } func 2 { } func 3 { } func", SYNTAX, 16);
        Check.dueCompile("func 0 { } func 1 { } func 2 { } func 4 { }", SYNTAX, 13);
    }

    private static void theNumberOfAFunc() {
        Check.sentence("a NUM of func must be 0..3");
        for (int before = 0; before <= 3; before++) {
            String head = "func 0 { } ".repeat(before);
            for (int number : new int[] {Check.MIN, -4, -1, 0, 1, 2, 3, 4, 5, 256, Check.MAX}) {
                boolean right = number >= 0 && number <= 3;
                Check.dueCompile(head + "func " + (right ? "" : "@") + number + " { }", right ? OK : SYNTAX);
            }
            Check.dueCompile(head + "func @v0 { }", SYNTAX);
            Check.dueCompile(head + "func @f0 { }", SYNTAX);
            Check.dueCompile(head + "func @{ }", SYNTAX);
        }
    }

    private static void aFifthFunc() {
        Check.sentence("a fifth func fits nowhere");
        String four = "func 0 { } func 1 { } func 2 { } func 3 { } ";
        Check.dueCompile(four, OK);
        Check.dueCompile(four + "@func", SYNTAX);
        Check.dueCompile(four + "@func 0 { }", SYNTAX);
        Check.dueCompile(four + "@func 9 { }", SYNTAX);
        for (int kind = 0; kind <= 41; kind++) {
            RegisterCompiler x = Check.fed(four);
            x.token(kind, 0);
            Check.due("compile() of four functions and kind " + kind, x.compile(), SYNTAX);
            Check.due("place() of four functions and kind " + kind, x.place(), 16);
        }
        Check.dueCompile("func 0 { @func 0 { } }", SYNTAX);
        Check.dueCompile("func 0 { } func 1 { } func 2 { } func 3 { @func", SYNTAX);
    }

    private static void everyPrefixMissesItsEnd() {
        Check.sentence("or their number if the end is missing");
        String[] words = ("func 1 { v0 = v1 ; m [ v0 ] = f0 ( 1 , ( 2 ) ) ; if ( - v0 ) { } else while ( m [ 0 ] + 1 )"
                + " { break ; continue ; } f0 ( ) ; return v0 ; print ! 1 ; }").split(" ");
        StringBuilder prefix = new StringBuilder();
        for (int i = 0; i < words.length; i++) {
            Check.dueCompile(prefix.toString(), SYNTAX, i);
            prefix.append(words[i]).append(' ');
        }
        Check.dueCompile(prefix.toString(), COUNT, 12);
    }

    private static void wrongStatements() {
        Check.sentence("place: the first token such that no program begins with the tokens up to it and with it");
        Check.dueCompile("func 0 { ; }", SYNTAX, 3);
        Check.dueCompile("func 0 { 1 ; }", SYNTAX, 3);
        Check.dueCompile("func 0 { else v0 = 1 ; }", SYNTAX, 3);
        Check.dueCompile("func 0 { ( v0 ) = 1 ; }", SYNTAX, 3);
        Check.dueCompile("func 0 { v0 + 1 ; }", SYNTAX, 4);
        Check.dueCompile("func 0 { v0 == 1 ; }", SYNTAX, 4);
        Check.dueCompile("func 0 { v0 = v1 = 1 ; }", SYNTAX, 6);
        Check.dueCompile("func 0 { m = 1 ; }", SYNTAX, 4);
        Check.dueCompile("func 0 { m [ 1 ] ; }", SYNTAX, 7);
        Check.dueCompile("func 0 { m [ ] = 1 ; }", SYNTAX, 5);
        Check.dueCompile("func 0 { m [ 1 , 2 ] = 1 ; }", SYNTAX, 6);
        Check.dueCompile("func 0 { f0 ( ) + 1 ; }", SYNTAX, 6);
        Check.dueCompile("func 0 { f0 = 1 ; }", SYNTAX, 4);
        Check.dueCompile("func 0 { f0 ; }", SYNTAX, 4);
        Check.dueCompile("func 0 { return ; }", SYNTAX, 4);
        Check.dueCompile("func 0 { print ; }", SYNTAX, 4);
        Check.dueCompile("func 0 { break 1 ; }", SYNTAX, 4);
        Check.dueCompile("func 0 { continue }", SYNTAX, 4);
        Check.dueCompile("func 0 { if v0 { } }", SYNTAX, 4);
        Check.dueCompile("func 0 { if ( ) { } }", SYNTAX, 5);
        Check.dueCompile("func 0 { if ( 1 ) }", SYNTAX, 7);
        Check.dueCompile("func 0 { while ( 1 ) ; }", SYNTAX, 7);
        Check.dueCompile("func 0 { while { } }", SYNTAX, 4);
        Check.dueCompile("func 0 { v0 = 1 }", SYNTAX, 6);
    }

    private static void wrongExpressions() {
        Check.sentence("place: the first token such that no program begins with the tokens up to it and with it");
        Check.dueCompile("func 0 { v0 = ; }", SYNTAX, 5);
        Check.dueCompile("func 0 { v0 = + 1 ; }", SYNTAX, 5);
        Check.dueCompile("func 0 { v0 = 1 + ; }", SYNTAX, 7);
        Check.dueCompile("func 0 { v0 = 1 2 ; }", SYNTAX, 6);
        Check.dueCompile("func 0 { v0 = 1 ! 2 ; }", SYNTAX, 6);
        Check.dueCompile("func 0 { v0 = 1 - - 2 ; }", OK, -1);
        Check.dueCompile("func 0 { v0 = ( ) ; }", SYNTAX, 6);
        Check.dueCompile("func 0 { v0 = ( 1 ; }", SYNTAX, 7);
        Check.dueCompile("func 0 { v0 = 1 ) ; }", SYNTAX, 6);
        Check.dueCompile("func 0 { v0 = ( 1 ] ; }", SYNTAX, 7);
        Check.dueCompile("func 0 { v0 = m ; }", SYNTAX, 6);
        Check.dueCompile("func 0 { v0 = m ( 1 ) ; }", SYNTAX, 6);
        Check.dueCompile("func 0 { v0 = v0 [ 1 ] ; }", SYNTAX, 6);
        Check.dueCompile("func 0 { v0 = f0 ; }", SYNTAX, 6);
        Check.dueCompile("func 0 { v0 = f0 ( , 1 ) ; }", SYNTAX, 7);
        Check.dueCompile("func 0 { v0 = f0 ( 1 , ) ; }", SYNTAX, 9);
        Check.dueCompile("func 0 { v0 = f0 ( 1 2 ) ; }", SYNTAX, 8);
        Check.dueCompile("func 0 { v0 = f0 ( 1 ; }", SYNTAX, 8);
        Check.dueCompile("func 0 { v0 = 1 , 2 ; }", SYNTAX, 6);
        Check.dueCompile("func 0 { v0 = 1 + print ; }", SYNTAX, 7);
    }

    private static void elseParts() {
        Check.sentence("else belongs to the nearest if that can take it");
        Check.dueCompile("func 0 { if ( 1 ) { } else { } else { } }", SYNTAX, 12);
        Check.dueCompile("func 0 { if ( 1 ) if ( 1 ) { } else { } else { } }", OK, -1);
        Check.dueCompile("func 0 { if ( 1 ) if ( 1 ) { } else { } else { } else { } }", SYNTAX, 19);
        Check.dueCompile("func 0 { if ( 1 ) while ( 1 ) if ( 1 ) { } else { } else { } }", OK, -1);
        Check.dueCompile("func 0 { while ( 1 ) { } else { } }", SYNTAX, 9);
        Check.dueCompile("func 0 { if ( 1 ) { } { } else { } }", SYNTAX, 11);
        Check.dueCompile("func 0 { { if ( 1 ) { } } else { } }", SYNTAX, 11);
        Check.dueCompile("func 0 { if ( 1 ) else { } }", SYNTAX, 7);
    }

    private static void loops() {
        Check.sentence("LOOP (a break or continue outside every while of its function)");
        Check.dueCompile("func 0 { break ; }", LOOP, 3);
        Check.dueCompile("func 0 { continue ; }", LOOP, 3);
        Check.dueCompile("func 0 { while ( 1 ) { } continue ; break ; }", LOOP, 9);
        Check.dueCompile("func 0 { while ( 1 ) break ; if ( 1 ) { break ; } }", LOOP, 14);
        Check.dueCompile("func 0 { while ( 1 ) { while ( 2 ) { } break ; } continue ; }", LOOP, 17);
        Check.dueCompile("func 0 { while ( 1 ) { if ( 1 ) continue ; else break ; } }", OK, -1);
        Check.dueCompile("func 0 { while ( 1 ) break ; } func 0 { break ; }", LOOP, 13);
    }

    private static void loopsOfOtherFunctions() {
        Check.sentence("outside every while of its function");
        Check.dueCompile("func 0 { while ( 1 ) f1 ( ) ; } func 0 { @break ; }", LOOP);
        Check.dueCompile("func 0 { while ( 1 ) f1 ( ) ; } func 0 { if ( 1 ) @continue ; }", LOOP);
        Check.dueCompile("func 0 { @break ; } func 0 { while ( 1 ) f0 ( ) ; }", LOOP);
        Check.dueCompile("func 0 { while ( 1 ) { while ( 1 ) { } } } func 0 { @continue ; }", LOOP);
        Check.dueCompile("func 0 { while ( 1 ) break ; } func 0 { while ( 1 ) continue ; } func 0 { { @break ; } }", LOOP);
    }

    private static void theFirstLooseJump() {
        Check.sentence("LOOP (.. place: the first such)");
        Check.dueCompile("func 0 { @break ; continue ; }", LOOP);
        Check.dueCompile("func 0 { @continue ; break ; }", LOOP);
        Check.dueCompile("func 0 { while ( 1 ) { continue ; break ; } @break ; break ; }", LOOP);
        Check.dueCompile("func 0 { if ( 1 ) { } else @break ; while ( 1 ) break ; continue ; }", LOOP);
        Check.dueCompile("func 0 { } func 0 { @continue ; } func 0 { break ; }", LOOP);
    }

    private static void unknownCalls() {
        Check.sentence("UNKNOWN (a CALL of a function that isn't there; the first such)");
        Check.dueCompile("func 0 { f1 ( ) ; }", UNKNOWN, 3);
        Check.dueCompile("func 0 { f1 ( ) ; } func 0 { }", OK, -1);
        Check.dueCompile("func 0 { f1 ( ) ; f3 ( ) ; f2 ( ) ; } func 0 { }", UNKNOWN, 7);
        Check.dueCompile("func 0 { return 1 + f0 ( ) * f2 ( f3 ( ) ) ; } func 0 { }", UNKNOWN, 10);
        Check.dueCompile("func 0 { f3 ( ) ; } func 0 { } func 0 { } func 0 { }", OK, -1);
    }

    private static void everyCallOfEveryNumber() {
        Check.sentence("UNKNOWN (a CALL of a function that isn't there)");
        for (int functions = 1; functions <= 4; functions++) {
            for (int called = 0; called <= 3; called++) {
                String mark = called < functions ? "f" : "@f";
                String others = " func 0 { }".repeat(functions - 1);
                Check.dueCompile("func 0 { " + mark + called + " ( ) ; }" + others, called < functions ? OK : UNKNOWN);
            }
        }
    }

    /** At each of these places a CALL may be unknown, or have too few or too many arguments. */
    private static void callsEverywhere() {
        String[] places = {"# ;", "v0 = # ;", "m [ # ] = 1 ;", "m [ 1 ] = # ;", "if ( # ) { }", "while ( # ) { }", "return # ;",
            "print # ;", "v0 = 1 + # ;", "v0 = # - 1 ;", "v0 = - # ;", "v0 = ( # ) ;", "v0 = m [ # ] ;", "v0 = 1 && # ;",
            "if ( 1 ) # ; else { }", "if ( 1 ) { } else # ;", "while ( 1 ) # ;", "{ { # ; } }", "v0 = f0 ( # ) ;", "f1 ( 1 , # ) ;"};
        for (String place : places) {
            Check.sentence("UNKNOWN (a CALL of a function that isn't there; the first such)");
            dueCallAt(place, "f0 ( 1 )", OK);
            dueCallAt(place, "f1 ( 1 , 2 )", OK);
            dueCallAt(place, "@f2 ( )", UNKNOWN);
            dueCallAt(place, "@f3 ( 1 )", UNKNOWN);
            Check.sentence("COUNT (a CALL with another number of arguments than its function has parameters)");
            dueCallAt(place, "@f0 ( )", COUNT);
            dueCallAt(place, "@f0 ( 1 , 2 )", COUNT);
            dueCallAt(place, "@f1 ( 1 )", COUNT);
            dueCallAt(place, "@f1 ( 1 , 2 , 3 )", COUNT);
        }
    }

    private static void dueCallAt(String place, String call, int answer) {
        Check.dueCompile("func 1 { " + place.replace("#", call) + " } func 2 { }", answer);
        Check.dueCompile("func 1 { } func 2 { " + place.replace("#", call) + " }", answer);
    }

    private static void argumentCounts() {
        Check.sentence("COUNT (a CALL with another number of arguments than its function has parameters; the first such)");
        for (int parameters = 0; parameters <= 3; parameters++) {
            StringBuilder arguments = new StringBuilder();
            for (int given = 0; given <= 50; given++) {
                String program = "func " + parameters + " { f0 ( " + arguments + " ) ; }";
                boolean right = given == parameters;
                Check.dueCompile(program, right ? OK : COUNT, right ? -1 : 3);
                arguments.append(given == 0 ? "1 " : ", 1 ");
            }
        }
        Check.dueCompile("func 1 { f0 ( f0 ( ) ) ; f0 ( ) ; }", COUNT, 5);
        Check.dueCompile("func 1 { f0 ( f0 ( ) , 1 ) ; }", COUNT, 3);
        Check.dueCompile("func 1 { f0 ( f1 ( 1 , f0 ( 2 ) ) ) ; f1 ( 1 ) ; } func 2 { }", COUNT, 16);
        Check.dueCompile("func 0 { @f0 ( 1 ) ; f0 ( 2 ) ; }", COUNT);
        Check.dueCompile("func 0 { f0 ( ) ; @f1 ( 1 , 2 ) ; f1 ( 1 ) ; } func 0 { f0 ( 3 ) ; }", COUNT);
        Check.dueCompile("func 0 { } func 1 { f0 ( ) ; @f1 ( f0 ( ) , f1 ( ) ) ; }", COUNT);
    }

    private static void theFirstKindOfFaultWins() {
        Check.sentence("The first of: SYNTAX, LOOP, UNKNOWN, COUNT");
        Check.dueCompile("func 0 { f0 ( 1 ) ; f1 ( ) ; break ; ; }", SYNTAX, 14);
        Check.dueCompile("func 0 { f0 ( 1 ) ; f1 ( ) ; break ; }", LOOP, 12);
        Check.dueCompile("func 0 { f0 ( 1 ) ; f1 ( ) ; }", UNKNOWN, 8);
        Check.dueCompile("func 0 { f0 ( 1 ) ; f0 ( ) ; }", COUNT, 3);
        Check.dueCompile("func 0 { f0 ( 1 ) ; f1 ( ) ; break ; } func", SYNTAX, 16);
        Check.dueCompile("func 0 { break ; f1 ( ) ; f0 ( 1 ) ; @; }", SYNTAX);
        Check.dueCompile("func 0 { @break ; f1 ( ) ; f0 ( 1 ) ; }", LOOP);
        Check.dueCompile("func 0 { @f1 ( ) ; f0 ( 1 ) ; }", UNKNOWN);
        Check.dueCompile("func 0 { f0 ( @f1 ( 2 ) ) ; }", UNKNOWN);
        Check.dueCompile("func 0 { f0 ( 1 ) ; } func 0 { f0 ( 2 ) ; @break ; }", LOOP);
        Check.dueCompile("func 0 { f0 ( 1 ) ; } func 0 { f0 ( 2 ) ; @f2 ( ) ; }", UNKNOWN);
    }

    private static void nothingIsCompiledAfterAFault() {
        Check.sentence("After these nothing is compiled");
        String[] wrong = {"", "func", "func 0 { } }", "func 0 { break ; }", "func 0 { f1 ( ) ; }", "func 0 { f0 ( 1 ) ; }",
            "func 0 { } func 0 { } func 0 { } func 0 { } func"};
        for (String program : wrong) {
            RegisterCompiler x = Check.compiled("func 0 { return 4 ; } func 0 { } func 0 { } func 0 { }");
            Check.dueRun(x, 0, 0, 0, RegisterCompiler.DONE, 4);
            Check.due("compile() of " + program, Check.recompile(x, program) != OK, true);
            for (int f = -1; f <= 4; f++) {
                Check.due("run(" + f + ") after compile() of " + program, x.run(f, 0, 0, 0), RegisterCompiler.REFUSED);
            }
            Check.due("result() stays", x.result(), 4);
            Check.due("compile() after a fault", Check.recompile(x, "func 0 { return 6 ; }"), OK);
            Check.dueRun(x, 0, 0, 0, RegisterCompiler.DONE, 6);
        }
    }

    private static void tokensStay() {
        Check.sentence("OK: the program is there; the tokens stay");
        RegisterCompiler x = Check.compiled("func 0 { return 4 ; }");
        Check.due("compile() again", x.compile(), OK);
        Check.dueRun(x, 0, 0, 0, RegisterCompiler.DONE, 4);
        Check.feed(x, "func 0 { return 5 ; }");
        Check.due("compile() with another function", x.compile(), OK);
        Check.dueRun(x, 0, 0, 0, RegisterCompiler.DONE, 4);
        Check.due("run(1, ..)", x.run(1, 0, 0, 0), RegisterCompiler.DONE);
        Check.due("result()", x.result(), 5);
        Check.due("wipe()", x.wipe(), 14);
    }

    private static void nothingIsLeftOfTheCompileBefore() {
        Check.sentence("Compiles the tokens");
        RegisterCompiler x = Check.fed("func 0 { f0 ( ) ; f0 ( ) ; f3 ( ) ; while ( 1 ) { while ( 1 ) {");
        Check.due("compile() in the middle of a while", x.compile(), SYNTAX);
        x.wipe();
        Check.feed(x, "func 0 { break ; }");
        Check.due("compile() of a loose break after it", x.compile(), LOOP);
        x.wipe();
        Check.feed(x, "func 1 { f0 ( 1 ) ; }");
        Check.due("compile() of a shorter program after it", x.compile(), OK);
        x.wipe();
        Check.feed(x, "func 0 { f0 ( ) ; }");
        Check.due("compile() with another number of arguments", x.compile(), OK);
    }

    /** Fills all 120 tokens with one construct, and compiles it again and again. */
    private static void programsOfFullLength() {
        Check.sentence("or there are 120 tokens");
        repeated("func 1 { return v0", " && v0", 56, " ; }", 7, 1);
        repeated("func 1 { return v0", " || v0", 56, " ; }", 0, 0);
        repeated("func 1 { return v0", " + v0", 56, " ; }", 3, 3 * 57);
        repeated("func 1 { return ", "- ", 113, "v0 ; }", 3, -3);
        repeated("func 1 {", " while ( v0 ) break ;", 18, " return v0 + 4 ; }", 3, 7);
        repeated("func 1 {", " if ( v0 ) v1 = 1 + v1 ; else v1 = v1 - 1 ;", 6, " return v1 ; }", 0, -6);
        repeated("func 1 { if ( v0 ) ", "if ( v0 ) ", 26, "return 8 ; }", 1, 8);
        repeated("func 1 { while ( v0 ) ", "while ( v0 ) ", 26, "return 8 ; }", 1, 8);
        nested("func 1 { return ", "( ", "v0", " )", 56, " ; }", 5, 5);
        nested("func 1 { return ", "m [ ", "v0", " ]", 37, " ; }", 5, 0);
        nested("func 1 { return ", "1 - ( ", "v0", " )", 28, " ; }", 5, 5);
        nested("func 1 { ", "{ ", "return v0 ;", " }", 56, " }", 5, 5);
        nested("func 1 { return v0 && ", "f1 ( ", "0", " )", 34, " ; } func 1 { return v0 ; }", 5, 0);
        repeated("func 1 { ", "f1 ( ) ; ", 26, "return v0 ; } func 0 { }", 9, 9);
    }

    private static void nested(String head, String open, String core, String close, int times, String tail, int a, int want) {
        repeated(head + open.repeat(times) + core, close, times, tail, a, want);
    }

    private static void repeated(String head, String part, int times, String tail, int a, int want) {
        RegisterCompiler x = Check.fed(head + part.repeat(times) + tail);
        for (int again = 0; again < 30; again++) {
            Check.due("compile() of " + part + " " + times + " times", x.compile(), OK);
            Check.dueRun(x, a, 0, 0, RegisterCompiler.DONE, want);
        }
    }
}
