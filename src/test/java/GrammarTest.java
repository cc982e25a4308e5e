import java.util.Set;
import java.util.TreeSet;

/**
 * The grammar of the document's "Terms", token by token: behind each beginning of a program every kind
 * of token is tried, and compile() finds it wrong unless it is one of those that are due there.
 */
public final class GrammarTest {
    private static final String EXPRESSION = "0 v0 f0 m ( - ! ~";
    private static final String STATEMENT = "{ v0 m f0 if while break continue return print";
    private static final String OPERATOR = "|| && | ^ & == != < > <= >= << >> >>> + - * / %";

    public static void main(String[] args) {
        programsAndBlocks();
        statements();
        conditions();
        elseParts();
        expressions();
        calls();
        everyOperator();
        inEveryFunction();
        anyNumberOfTimes();
        Check.finish();
    }

    private static void programsAndBlocks() {
        Check.sentence("program = func { func }   func = \"func\" NUM block   block = \"{\" { stmt } \"}\"");
        follows("", "func");
        follows("func", "0");
        follows("func 0", "{");
        follows("func 0 {", STATEMENT + " }");
        follows("func 0 { {", STATEMENT + " }");
        follows("func 0 { { }", STATEMENT + " }");
        follows("func 0 { { } {", STATEMENT + " }");
        followsWhole("func 0 { }", "func");
        followsWhole("func 0 { } func 0 { } func 0 { }", "func");
        followsWhole("func 0 { } func 0 { } func 0 { } func 0 { }", "");
    }

    private static void statements() {
        Check.sentence("stmt = block | VAR \"=\" expr \";\" | .. | \"print\" expr \";\"");
        follows("func 0 { v0", "=");
        follows("func 0 { v0 =", EXPRESSION);
        follows("func 0 { v0 = 1", OPERATOR + " ;");
        follows("func 0 { v0 = 1 ;", STATEMENT + " }");
        follows("func 0 { m", "[");
        follows("func 0 { m [", EXPRESSION);
        follows("func 0 { m [ 1", OPERATOR + " ]");
        follows("func 0 { m [ 1 ]", "=");
        follows("func 0 { m [ 1 ] =", EXPRESSION);
        follows("func 0 { m [ 1 ] = 1", OPERATOR + " ;");
        follows("func 0 { m [ 1 ] = 1 ;", STATEMENT + " }");
        follows("func 0 { f0", "(");
        follows("func 0 { f0 ( )", ";");
        follows("func 0 { f0 ( ) ;", STATEMENT + " }");
        follows("func 0 { break", ";");
        follows("func 0 { break ;", STATEMENT + " }");
        follows("func 0 { continue", ";");
        follows("func 0 { continue ;", STATEMENT + " }");
        follows("func 0 { return", EXPRESSION);
        follows("func 0 { return 1", OPERATOR + " ;");
        follows("func 0 { return 1 ;", STATEMENT + " }");
        follows("func 0 { print", EXPRESSION);
        follows("func 0 { print 1", OPERATOR + " ;");
        follows("func 0 { print 1 ;", STATEMENT + " }");
    }

    private static void conditions() {
        Check.sentence("\"if\" \"(\" expr \")\" stmt   \"while\" \"(\" expr \")\" stmt");
        for (String word : new String[] {"if", "while"}) {
            follows("func 0 { " + word, "(");
            follows("func 0 { " + word + " (", EXPRESSION);
            follows("func 0 { " + word + " ( 1", OPERATOR + " )");
            follows("func 0 { " + word + " ( 1 )", STATEMENT);
            follows("func 0 { " + word + " ( 1 ) {", STATEMENT + " }");
        }
        follows("func 0 { while ( 1 ) { }", STATEMENT + " }");
        follows("func 0 { while ( 1 ) while ( 1 ) break ;", STATEMENT + " }");
    }

    private static void elseParts() {
        Check.sentence("[ \"else\" stmt ]: else belongs to the nearest if that can take it");
        follows("func 0 { if ( 1 ) { }", STATEMENT + " } else");
        follows("func 0 { if ( 1 ) v0 = 1 ;", STATEMENT + " } else");
        follows("func 0 { if ( 1 ) { } else", STATEMENT);
        follows("func 0 { if ( 1 ) { } else { }", STATEMENT + " }");
        follows("func 0 { if ( 1 ) if ( 1 ) { } else { }", STATEMENT + " } else");
        follows("func 0 { if ( 1 ) if ( 1 ) { } else { } else { }", STATEMENT + " }");
        follows("func 0 { if ( 1 ) { } else if ( 1 ) { }", STATEMENT + " } else");
        follows("func 0 { if ( 1 ) { } else if ( 1 ) { } else { }", STATEMENT + " }");
        follows("func 0 { if ( 1 ) while ( 1 ) { }", STATEMENT + " } else");
        follows("func 0 { if ( 1 ) while ( 1 ) if ( 1 ) { } else { }", STATEMENT + " } else");
        follows("func 0 { while ( 1 ) if ( 1 ) { } else { }", STATEMENT + " }");
        follows("func 0 { if ( 1 ) { if ( 1 ) { } else { } }", STATEMENT + " } else");
        follows("func 0 { if ( 1 ) { } { }", STATEMENT + " }");
    }

    private static void expressions() {
        Check.sentence("unary = ( \"-\" | \"!\" | \"~\" ) unary | NUM | VAR | call | \"m\" \"[\" expr \"]\" | \"(\" expr \")\"");
        for (String unary : new String[] {"-", "!", "~", "- !", "~ -", "! ~ !"}) {
            follows("func 0 { v0 = " + unary, EXPRESSION);
            follows("func 0 { v0 = " + unary + " 1", OPERATOR + " ;");
        }
        for (String whole : new String[] {"-2147483648", "v5", "f0 ( )", "m [ 1 ]", "( 1 )", "1 + 1", "- ( 1 )"}) {
            follows("func 0 { v0 = " + whole, OPERATOR + " ;");
            follows("func 0 { v0 = ( " + whole, OPERATOR + " )");
            follows("func 0 { v0 = m [ " + whole, OPERATOR + " ]");
        }
        follows("func 0 { v0 = m", "[");
        follows("func 0 { v0 = m [", EXPRESSION);
        follows("func 0 { v0 = (", EXPRESSION);
        follows("func 0 { v0 = ( (", EXPRESSION);
        follows("func 0 { v0 = ( ( 1 )", OPERATOR + " )");
    }

    private static void calls() {
        Check.sentence("call = CALL \"(\" [ expr { \",\" expr } ] \")\"");
        for (String head : new String[] {"func 0 { ", "func 0 { v0 = "}) {
            follows(head + "f0", "(");
            follows(head + "f0 (", EXPRESSION + " )");
            follows(head + "f0 ( 1", OPERATOR + " , )");
            follows(head + "f0 ( 1 ,", EXPRESSION);
            follows(head + "f0 ( 1 , 2", OPERATOR + " , )");
            follows(head + "f0 ( 1 , 2 , 3 , 4 , 5", OPERATOR + " , )");
            follows(head + "f0 ( f0 (", EXPRESSION + " )");
            follows(head + "f0 ( f0 ( )", OPERATOR + " , )");
            follows(head + "f0 ( ( 1", OPERATOR + " )");
        }
    }

    private static void everyOperator() {
        Check.sentence("expr = unary { operator unary }");
        for (String operator : Check.words(OPERATOR)) {
            follows("func 0 { v0 = 1 " + operator, EXPRESSION);
            follows("func 0 { v0 = 1 " + operator + " 1", OPERATOR + " ;");
            follows("func 0 { v0 = f0 ( 1 " + operator + " 1", OPERATOR + " , )");
        }
    }

    private static void inEveryFunction() {
        Check.sentence("program = func { func }");
        for (int before = 1; before <= 3; before++) {
            String head = "func 0 { } ".repeat(before);
            follows(head + "func", "0");
            follows(head + "func 0", "{");
            follows(head + "func 0 {", STATEMENT + " }");
        }
    }

    private static void anyNumberOfTimes() {
        Check.sentence("{ } any number of times");
        Check.dueCompile("func 0 { }", RegisterCompiler.OK);
        Check.dueCompile("func 0 { " + "{ } ".repeat(58) + "}", RegisterCompiler.OK);
        Check.dueCompile("func 0 { " + "{ ".repeat(58) + "} ".repeat(58) + "}", RegisterCompiler.OK);
        Check.dueCompile("func 0 { v0 = 1" + " + 1".repeat(56) + " ; }", RegisterCompiler.OK);
        Check.dueCompile("func 0 { @f0 ( 1" + " , 1".repeat(55) + " ) ; }", RegisterCompiler.COUNT);
    }

    /** What stands before may only go on with one of the tokens due; it is no whole program yet. */
    private static void follows(String before, String due) {
        Check.dueCompile(before + " @", RegisterCompiler.SYNTAX);
        tryEveryKind(before, due);
    }

    private static void followsWhole(String before, String due) {
        Check.dueCompile(before, RegisterCompiler.OK);
        tryEveryKind(before, due);
    }

    private static void tryEveryKind(String before, String due) {
        Set<Integer> kinds = new TreeSet<>();
        for (String word : Check.words(due)) {
            kinds.add(Check.kind(word));
        }
        int place = Check.count(before);
        for (int kind = 0; kind <= 41; kind++) {
            RegisterCompiler x = Check.fed(before);
            Check.due("token", x.token(kind, 0), true);
            int answer = x.compile();
            boolean refused = answer == RegisterCompiler.SYNTAX && x.place() == place;
            Check.due("kind " + kind + " is wrong behind " + before, refused, !kinds.contains(kind));
            // Behind a token that is right nothing else can be wrong but the missing end.
            if (answer == RegisterCompiler.SYNTAX && !refused) {
                Check.due("place() of kind " + kind + " behind " + before, x.place(), place + 1);
            }
        }
    }
}
