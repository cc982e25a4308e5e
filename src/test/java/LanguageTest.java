import com.sun.source.tree.ArrayTypeTree;
import com.sun.source.tree.AssignmentTree;
import com.sun.source.tree.BinaryTree;
import com.sun.source.tree.ClassTree;
import com.sun.source.tree.CompilationUnitTree;
import com.sun.source.tree.CompoundAssignmentTree;
import com.sun.source.tree.ExpressionTree;
import com.sun.source.tree.ForLoopTree;
import com.sun.source.tree.IdentifierTree;
import com.sun.source.tree.LiteralTree;
import com.sun.source.tree.MethodInvocationTree;
import com.sun.source.tree.MethodTree;
import com.sun.source.tree.NewArrayTree;
import com.sun.source.tree.PrimitiveTypeTree;
import com.sun.source.tree.Tree;
import com.sun.source.tree.TypeCastTree;
import com.sun.source.tree.UnaryTree;
import com.sun.source.tree.VariableTree;
import com.sun.source.util.JavacTask;
import com.sun.source.util.SourcePositions;
import com.sun.source.util.TreeScanner;
import com.sun.source.util.Trees;
import java.io.File;
import java.util.ArrayList;
import java.util.EnumSet;
import java.util.HashSet;
import java.util.List;
import java.util.Map;
import java.util.Set;
import java.util.TreeMap;
import java.util.TreeSet;
import javax.lang.model.element.Modifier;
import javax.lang.model.type.TypeKind;
import javax.tools.JavaCompiler;
import javax.tools.StandardJavaFileManager;
import javax.tools.ToolProvider;

/**
 * The rules of ../shared/LANGUAGE.md, as far as the source alone shows whether they are kept. Where a
 * rule leaves a choice that the class does not use (arrays in local variables, while and do), the test
 * asks for the narrower form, as that is easier to see.
 */
public final class LanguageTest {
    private static final Set<Tree.Kind> FORBIDDEN = EnumSet.of(
            Tree.Kind.THROW, Tree.Kind.TRY, Tree.Kind.CATCH, Tree.Kind.SYNCHRONIZED, Tree.Kind.ASSERT,
            Tree.Kind.INSTANCE_OF, Tree.Kind.LAMBDA_EXPRESSION, Tree.Kind.MEMBER_REFERENCE,
            Tree.Kind.NEW_CLASS, Tree.Kind.MEMBER_SELECT, Tree.Kind.IMPORT, Tree.Kind.PACKAGE,
            Tree.Kind.INTERFACE, Tree.Kind.ENUM, Tree.Kind.RECORD, Tree.Kind.ANNOTATION,
            Tree.Kind.STRING_LITERAL, Tree.Kind.NULL_LITERAL, Tree.Kind.FLOAT_LITERAL, Tree.Kind.DOUBLE_LITERAL,
            Tree.Kind.ENHANCED_FOR_LOOP, Tree.Kind.WHILE_LOOP, Tree.Kind.DO_WHILE_LOOP);
    private static final Set<TypeKind> TYPES = EnumSet.of(
            TypeKind.INT, TypeKind.LONG, TypeKind.SHORT, TypeKind.BYTE, TypeKind.CHAR, TypeKind.BOOLEAN);

    private static final Set<Tree.Kind> STEPS = EnumSet.of(
            Tree.Kind.POSTFIX_INCREMENT, Tree.Kind.POSTFIX_DECREMENT, Tree.Kind.PREFIX_INCREMENT, Tree.Kind.PREFIX_DECREMENT);

    private static CompilationUnitTree unit;
    private static SourcePositions positions;
    private static ClassTree type;
    private static final List<VariableTree> fields = new ArrayList<>();
    private static final List<MethodTree> methods = new ArrayList<>();
    private static final Map<String, Set<String>> calls = new TreeMap<>();

    public static void main(String[] args) throws Exception {
        read();
        oneClass();
        namesOfPrivateMethods();
        typesAndForbiddenParts();
        arraysAreMadeInFields();
        staticFieldsAreConstants();
        loopsCountAgainstABound();
        callsStandAlone();
        depthOfCalls();
        sizes();
        Check.finish();
    }

    private static void read() throws Exception {
        JavaCompiler compiler = ToolProvider.getSystemJavaCompiler();
        StandardJavaFileManager files = compiler.getStandardFileManager(null, null, null);
        JavacTask task = (JavacTask) compiler.getTask(null, files, null, null, null,
                files.getJavaFileObjects(new File("src/main/java/RegisterCompiler.java")));
        unit = task.parse().iterator().next();
        positions = Trees.instance(task).getSourcePositions();
        type = (ClassTree) unit.getTypeDecls().get(0);
        for (Tree member : type.getMembers()) {
            if (member instanceof VariableTree) {
                fields.add((VariableTree) member);
            } else if (member instanceof MethodTree) {
                methods.add((MethodTree) member);
            } else {
                dueNone("1, 5", "a member that is neither a field nor a method", member);
            }
        }
    }

    private static long line(Tree tree) {
        return unit.getLineMap().getLineNumber(positions.getStartPosition(unit, tree));
    }

    private static void dueNone(String rule, String what, Tree found) {
        Check.due("rule " + rule + ": " + what + " in line " + line(found), 1, 0);
    }

    private static boolean is(Set<Modifier> modifiers, Modifier... all) {
        return modifiers.containsAll(List.of(all));
    }

    private static void oneClass() {
        Check.sentence("1. One class: the one of the document, public and final");
        Check.due("classes in the file", unit.getTypeDecls().size(), 1);
        Check.due("files beside it", new File("src/main/java").list().length, 1);
        Check.due("public and final", is(type.getModifiers().getFlags(), Modifier.PUBLIC, Modifier.FINAL), true);
        Check.due("extends nothing", type.getExtendsClause() == null && type.getImplementsClause().isEmpty(), true);
    }

    private static void namesOfPrivateMethods() {
        Check.sentence("1. No private method bears the name of a public one");
        Set<String> names = new TreeSet<>();
        for (MethodTree method : methods) {
            // Stricter than the rule: no name is used twice, so that a call shows by its name what it calls.
            Check.due("the only " + method.getName(), names.add(method.getName().toString()), true);
            Set<Modifier> flags = method.getModifiers().getFlags();
            Check.due(method.getName() + " is public or private",
                    is(flags, Modifier.PUBLIC) || is(flags, Modifier.PRIVATE), true);
        }
        for (VariableTree field : fields) {
            Set<Modifier> flags = field.getModifiers().getFlags();
            Check.due(field.getName() + " is private, or a constant of the face",
                    is(flags, Modifier.PRIVATE) || is(flags, Modifier.PUBLIC, Modifier.STATIC, Modifier.FINAL), true);
        }
    }

    private static boolean isNumberOrBoolean(Tree written) {
        return written instanceof PrimitiveTypeTree && TYPES.contains(((PrimitiveTypeTree) written).getPrimitiveTypeKind());
    }

    private static boolean isArray(Tree written) {
        return written instanceof ArrayTypeTree && isNumberOrBoolean(((ArrayTypeTree) written).getType());
    }

    private static void typesAndForbiddenParts() {
        Check.sentence("2. Types, 3. No class of the Java library, 6. No throw, try, ..");
        new TreeScanner<Void, Void>() {
            @Override
            public Void scan(Tree tree, Void nothing) {
                if (tree != null && FORBIDDEN.contains(tree.getKind())) {
                    dueNone("2, 3, 6, 8", tree.getKind() + "", tree);
                }
                return super.scan(tree, nothing);
            }

            @Override
            public Void visitVariable(VariableTree variable, Void nothing) {
                boolean isRight = isNumberOrBoolean(variable.getType()) || fields.contains(variable) && isArray(variable.getType());
                Check.due("rule 2, 4: the type of " + variable, isRight, true);
                return super.visitVariable(variable, nothing);
            }

            @Override
            public Void visitTypeCast(TypeCastTree cast, Void nothing) {
                Check.due("rule 6: " + cast, isNumberOrBoolean(cast.getType()), true);
                return super.visitTypeCast(cast, nothing);
            }
        }.scan(unit, null);
        for (MethodTree method : methods) {
            Tree answer = method.getReturnType();
            boolean isVoid = answer == null || answer.toString().equals("void");
            Check.due("rule 2, 4: what " + method.getName() + " answers", isVoid || isNumberOrBoolean(answer), true);
        }
    }

    /** Fields that hold arrays are final, so that no method can assign to them. */
    private static void arraysAreMadeInFields() {
        Check.sentence("4. Arrays are made in a field's initialiser .. with a length .. that is a literal or a constant");
        Set<String> constants = new TreeSet<>();
        Set<Tree> made = new HashSet<>();
        for (VariableTree field : fields) {
            if (is(field.getModifiers().getFlags(), Modifier.STATIC)) {
                constants.add(field.getName().toString());
            } else if (isArray(field.getType())) {
                Check.due(field.getName() + " is final", is(field.getModifiers().getFlags(), Modifier.FINAL), true);
                Check.due(field.getName() + " has an array made for it", field.getInitializer() instanceof NewArrayTree, true);
                made.add(field.getInitializer());
            }
        }
        new TreeScanner<Void, Void>() {
            @Override
            public Void visitNewArray(NewArrayTree array, Void nothing) {
                Check.due(array + " is a field's own", made.contains(array), true);
                Check.due(array + " has one length", array.getDimensions().size(), 1);
                ExpressionTree length = array.getDimensions().get(0);
                Check.due(array + " has a constant length", length instanceof LiteralTree
                        || length instanceof IdentifierTree && constants.contains(length.toString()), true);
                return super.visitNewArray(array, nothing);
            }
        }.scan(type, null);
    }

    private static void staticFieldsAreConstants() {
        Check.sentence("5. Static fields are compile-time constants of int or long alone");
        for (VariableTree field : fields) {
            if (is(field.getModifiers().getFlags(), Modifier.STATIC)) {
                String written = field.getType().toString();
                Check.due(field.getName() + " is final", is(field.getModifiers().getFlags(), Modifier.FINAL), true);
                Check.due(field.getName() + " is an int or long", written.equals("int") || written.equals("long"), true);
                Check.due(field.getName() + " has a value", field.getInitializer() != null, true);
            }
        }
    }

    private static void loopsCountAgainstABound() {
        Check.sentence("8. Every loop has an end that can be seen from its own lines (a counter against a bound)");
        new TreeScanner<Void, Void>() {
            @Override
            public Void visitForLoop(ForLoopTree loop, Void nothing) {
                String counter = ((VariableTree) loop.getInitializer().get(0)).getName().toString();
                String step = loop.getUpdate().get(0).getExpression().toString();
                Check.due("a step in line " + line(loop), step.equals(counter + "++") || step.equals(counter + "--"), true);
                Check.due("a bound in line " + line(loop), isBound(loop.getCondition(), counter, step.endsWith("++")), true);
                Check.due("a counter that nothing else sets in line " + line(loop), isSet(loop.getStatement(), counter), false);
                return super.visitForLoop(loop, nothing);
            }
        }.scan(type, null);
    }

    /** Up below a constant in capitals, or down to 0; more conditions beside it can only end the loop sooner. */
    private static boolean isBound(ExpressionTree condition, String counter, boolean up) {
        ExpressionTree first = condition;
        while (first.getKind() == Tree.Kind.CONDITIONAL_AND) {
            first = ((BinaryTree) first).getLeftOperand();
        }
        return first.toString().matches(counter + (up ? " < [A-Z_]+" : " >= 0"));
    }

    private static boolean isSet(Tree body, String name) {
        boolean[] found = {false};
        new TreeScanner<Void, Void>() {
            @Override
            public Void visitAssignment(AssignmentTree assignment, Void nothing) {
                found[0] |= assignment.getVariable().toString().equals(name);
                return super.visitAssignment(assignment, nothing);
            }

            @Override
            public Void visitCompoundAssignment(CompoundAssignmentTree assignment, Void nothing) {
                found[0] |= assignment.getVariable().toString().equals(name);
                return super.visitCompoundAssignment(assignment, nothing);
            }

            @Override
            public Void visitUnary(UnaryTree unary, Void nothing) {
                found[0] |= STEPS.contains(unary.getKind()) && unary.getExpression().toString().equals(name);
                return super.visitUnary(unary, nothing);
            }
        }.scan(body, null);
        return found[0];
    }

    private static void callsStandAlone() {
        Check.sentence("3. none of Object's methods is called; 10. no call stands inside the arguments of another call");
        for (MethodTree method : methods) {
            calls.put(method.getName().toString(), new TreeSet<>());
        }
        new TreeScanner<Void, Void>() {
            @Override
            public Void visitMethodInvocation(MethodInvocationTree call, Void nothing) {
                dueNone("4, 5", "a call in a field's initialiser", call);
                return nothing;
            }
        }.scan(fields, null);
        for (MethodTree method : methods) {
            new TreeScanner<Void, Void>() {
                private int insideArguments = 0;

                @Override
                public Void visitMethodInvocation(MethodInvocationTree call, Void nothing) {
                    String name = call.getMethodSelect().toString();
                    Check.due(name + " is a method of the class", calls.containsKey(name), true);
                    Check.due(call + " in line " + line(call) + " stands inside arguments", insideArguments, 0);
                    calls.get(method.getName().toString()).add(name);
                    insideArguments++;
                    scan(call.getArguments(), nothing);
                    insideArguments--;
                    return nothing;
                }
            }.scan(method, null);
        }
    }

    /** Takes away, time and again, the methods that call none of those left: a circle would stay. */
    private static void depthOfCalls() {
        Check.sentence("8. No recursion; 10. calls go at most six deep");
        Map<String, Set<String>> left = new TreeMap<>(calls);
        int deep = 0;
        for (boolean found = true; found && !left.isEmpty(); deep += found ? 1 : 0) {
            Set<String> ends = new TreeSet<>();
            for (String name : left.keySet()) {
                if (left.get(name).stream().noneMatch(left::containsKey)) {
                    ends.add(name);
                }
            }
            found = left.keySet().removeAll(ends);
        }
        Check.due("methods in circles of calls " + left.keySet(), left.size(), 0);
        Check.due("calls go " + deep + " deep", deep <= 6, true);
    }

    private static void sizes() {
        Check.sentence("10. at most seven parameters .. some sixty lines .. some forty fields");
        for (MethodTree method : methods) {
            Check.due("parameters of " + method.getName(), method.getParameters().size() <= 7, true);
            long end = unit.getLineMap().getLineNumber(positions.getEndPosition(unit, method));
            Check.due("lines of " + method.getName(), end - line(method) < 60, true);
        }
        long count = fields.stream().filter(field -> !is(field.getModifiers().getFlags(), Modifier.STATIC)).count();
        Check.due("fields: " + count, count <= 40, true);
    }
}
