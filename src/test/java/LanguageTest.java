import com.sun.source.tree.BinaryTree;
import com.sun.source.tree.BlockTree;
import com.sun.source.tree.CatchTree;
import com.sun.source.tree.ClassTree;
import com.sun.source.tree.CompilationUnitTree;
import com.sun.source.tree.CompoundAssignmentTree;
import com.sun.source.tree.DoWhileLoopTree;
import com.sun.source.tree.EnhancedForLoopTree;
import com.sun.source.tree.ExpressionTree;
import com.sun.source.tree.ForLoopTree;
import com.sun.source.tree.ImportTree;
import com.sun.source.tree.LiteralTree;
import com.sun.source.tree.MethodInvocationTree;
import com.sun.source.tree.MethodTree;
import com.sun.source.tree.NewArrayTree;
import com.sun.source.tree.NewClassTree;
import com.sun.source.tree.SwitchTree;
import com.sun.source.tree.Tree;
import com.sun.source.tree.TryTree;
import com.sun.source.tree.TypeCastTree;
import com.sun.source.tree.VariableTree;
import com.sun.source.tree.WhileLoopTree;
import com.sun.source.util.JavacTask;
import com.sun.source.util.TreePath;
import com.sun.source.util.TreePathScanner;
import com.sun.source.util.Trees;
import java.nio.file.Path;
import java.util.EnumSet;
import java.util.HashMap;
import java.util.List;
import java.util.Map;
import java.util.Set;
import java.util.TreeMap;
import java.util.TreeSet;
import javax.lang.model.element.Element;
import javax.lang.model.element.ElementKind;
import javax.lang.model.element.ExecutableElement;
import javax.lang.model.element.Modifier;
import javax.lang.model.element.TypeElement;
import javax.lang.model.type.ArrayType;
import javax.lang.model.type.DeclaredType;
import javax.lang.model.type.TypeKind;
import javax.lang.model.type.TypeMirror;
import javax.tools.JavaCompiler;
import javax.tools.StandardJavaFileManager;
import javax.tools.ToolProvider;

/** Looks for what the rules of ../shared/LANGUAGE.md leave out, as far as the compiler's tree shows it. */
public final class LanguageTest {
    private static final Set<Tree.Kind> LEFT_OUT = EnumSet.of(Tree.Kind.LAMBDA_EXPRESSION, Tree.Kind.MEMBER_REFERENCE,
            Tree.Kind.SYNCHRONIZED, Tree.Kind.ASSERT, Tree.Kind.SWITCH_EXPRESSION, Tree.Kind.PACKAGE);
    private static final Set<String> LIBRARY = Set.of("String.length()", "String.charAt(int)", "String.isEmpty()",
            "String.equals(java.lang.Object)", "String.indexOf(int)", "String.substring(int)", "String.substring(int,int)",
            "String.toCharArray()", "StringBuilder.append(char)", "StringBuilder.append(java.lang.String)",
            "StringBuilder.append(int)", "StringBuilder.charAt(int)", "StringBuilder.setCharAt(int,char)",
            "StringBuilder.setLength(int)", "StringBuilder.deleteCharAt(int)", "StringBuilder.reverse()",
            "StringBuilder.length()", "StringBuilder.toString()", "System.arraycopy(java.lang.Object,int,java.lang.Object,int,int)");
    private static final Set<String> OF_NUMBERS = Set.of("compare", "max", "min", "abs", "bitCount", "floorDiv", "floorMod");
    private static final Set<String> OF_LISTS = Set.of("add", "get", "set", "remove", "size", "isEmpty", "clear");
    private static final Set<String> OF_ARRAYS = Set.of("copyOf", "copyOfRange", "fill");
    private static final Set<String> EXCEPTIONS = Set.of("IllegalStateException", "IllegalArgumentException",
            "IndexOutOfBoundsException", "ArithmeticException", "UnsupportedOperationException", "NoSuchElementException",
            "RuntimeException");
    private static final int MOST_LINES = 60;
    private static final int MOST_PARAMETERS = 7;
    private static final int MOST_DEEP = 8;
    private static final int MOST_CLASSES = 12;
    private static final int MOST_FIELDS = 20;

    private static int wrong = 0;
    private static Trees trees;
    private static CompilationUnitTree unit;
    private static int classes = 0;
    private static final Set<String> face = new TreeSet<>();
    private static final Map<String, Element> others = new TreeMap<>();
    private static final Map<Element, Set<Element>> called = new HashMap<>();

    public static void main(String[] args) throws Exception {
        JavaCompiler compiler = ToolProvider.getSystemJavaCompiler();
        StandardJavaFileManager files = compiler.getStandardFileManager(null, null, null);
        JavacTask task = (JavacTask) compiler.getTask(null, files, null, List.of("--release", "17", "-proc:none"), null,
                files.getJavaFileObjects(Path.of(args.length > 0 ? args[0] : "src/main/java/UrnHeap.java")));
        trees = Trees.instance(task);
        unit = task.parse().iterator().next();
        task.analyze();
        new Looker().scan(unit, null);
        for (String name : others.keySet()) {
            if (face.contains(name)) {
                fault(null, 1, "a method beside the face is called " + name);
            }
        }
        for (Element method : called.keySet()) {
            if (depthOf(method, 1) > MOST_DEEP) {
                fault(null, 11, method + " goes deeper than " + MOST_DEEP + " calls, or is a recursion");
            }
        }
        if (classes > MOST_CLASSES) {
            fault(null, 11, classes + " classes");
        }
        System.out.println("LanguageTest: " + classes + " classes, " + (face.size() + others.size()) + " names of methods, "
                + wrong + " wrong");
        if (wrong != 0) {
            System.exit(1);
        }
    }

    private static void fault(Tree tree, int rule, String what) {
        wrong++;
        long line = tree == null ? 0 : unit.getLineMap().getLineNumber(trees.getSourcePositions().getStartPosition(unit, tree));
        System.out.println("LanguageTest: rule " + rule + ", line " + line + ": " + what);
    }

    /** How many calls stand open below a call of the method; a recursion has no end of them. */
    private static int depthOf(Element method, int depth) {
        int most = depth;
        if (depth <= MOST_DEEP) {
            for (Element next : called.getOrDefault(method, Set.of())) {
                most = Math.max(most, depthOf(next, depth + 1));
            }
        }
        return most;
    }

    private static boolean isOwn(Element element) {
        for (Element e = element; e != null; e = e.getEnclosingElement()) {
            if (e.getSimpleName().contentEquals("UrnHeap")) {
                return true;
            }
        }
        return false;
    }

    private static final class Looker extends TreePathScanner<Void, Void> {
        private int loops = 0;
        private Element method = null;

        private Element element(Tree tree) {
            return trees.getElement(new TreePath(getCurrentPath(), tree));
        }

        private TypeMirror type(Tree tree) {
            return trees.getTypeMirror(new TreePath(getCurrentPath(), tree));
        }

        @Override
        public Void scan(Tree tree, Void nothing) {
            if (tree != null && LEFT_OUT.contains(tree.getKind())) {
                fault(tree, 2, tree.getKind() + " is left out");
            }
            return super.scan(tree, nothing);
        }

        @Override
        public Void visitImport(ImportTree tree, Void nothing) {
            String name = tree.getQualifiedIdentifier().toString();
            if (!Set.of("java.util.Arrays", "java.util.ArrayList", "java.util.List", "java.util.Iterator",
                    "java.util.NoSuchElementException").contains(name)) {
                fault(tree, 4, "import of " + name);
            }
            return super.visitImport(tree, nothing);
        }

        @Override
        public Void visitClass(ClassTree tree, Void nothing) {
            classes++;
            Set<Modifier> modifiers = tree.getModifiers().getFlags();
            boolean isOuter = tree.getSimpleName().contentEquals("UrnHeap");
            boolean isStatic = modifiers.contains(Modifier.STATIC) || tree.getKind() != Tree.Kind.CLASS;
            if (isOuter ? !modifiers.contains(Modifier.PUBLIC) || !modifiers.contains(Modifier.FINAL)
                    : !isStatic || modifiers.contains(Modifier.PUBLIC) || modifiers.contains(Modifier.PROTECTED)) {
                fault(tree, 1, "the class " + tree.getSimpleName() + " is " + modifiers);
            }
            int fields = 0;
            for (Tree member : tree.getMembers()) {
                if (member instanceof BlockTree block && block.isStatic()) {
                    fault(member, 5, "a static block");
                }
                if (member instanceof VariableTree field && !field.getModifiers().getFlags().contains(Modifier.STATIC)) {
                    fields++;
                }
            }
            if (fields > MOST_FIELDS) {
                fault(tree, 11, fields + " fields");
            }
            return super.visitClass(tree, nothing);
        }

        @Override
        public Void visitMethod(MethodTree tree, Void nothing) {
            Element before = method;
            method = trees.getElement(getCurrentPath());
            called.putIfAbsent(method, new java.util.HashSet<>());
            boolean isFace = method.getModifiers().contains(Modifier.PUBLIC);
            if (isFace) {
                face.add(tree.getName().toString());
            } else if (!tree.getName().contentEquals("<init>")) {
                others.put(tree.getName().toString(), method);
            }
            long first = unit.getLineMap().getLineNumber(trees.getSourcePositions().getStartPosition(unit, tree));
            long last = unit.getLineMap().getLineNumber(Math.max(0, trees.getSourcePositions().getEndPosition(unit, tree)));
            if (last - first + 1 > MOST_LINES || tree.getParameters().size() > MOST_PARAMETERS) {
                fault(tree, 11, tree.getName() + " has " + (last - first + 1) + " lines and " + tree.getParameters());
            }
            if (Set.of("equals", "hashCode", "toString").contains(tree.getName().toString())) {
                fault(tree, 6, tree.getName() + " of an own class");
            }
            super.visitMethod(tree, nothing);
            method = before;
            return null;
        }

        @Override
        public Void visitVariable(VariableTree tree, Void nothing) {
            Element variable = trees.getElement(getCurrentPath());
            Set<Modifier> modifiers = variable.getModifiers();
            if (!isAllowed(variable.asType())) {
                fault(tree, 3, "a variable of the type " + variable.asType());
            }
            if (modifiers.contains(Modifier.STATIC) && !modifiers.contains(Modifier.FINAL)) {
                fault(tree, 5, "a static field that is not final");
            }
            boolean isField = variable.getKind() == ElementKind.FIELD;
            if (isField && isOwn(variable) && variable.getEnclosingElement().getSimpleName().contentEquals("UrnHeap")
                    && !modifiers.contains(Modifier.PRIVATE) && !modifiers.contains(Modifier.PUBLIC)) {
                fault(tree, 1, "a field that can be seen");
            }
            if (modifiers.contains(Modifier.TRANSIENT) || modifiers.contains(Modifier.VOLATILE)) {
                fault(tree, 2, "a field that is " + modifiers);
            }
            return super.visitVariable(tree, nothing);
        }

        private boolean isAllowed(TypeMirror type) {
            if (type.getKind() == TypeKind.ARRAY) {
                TypeMirror part = ((ArrayType) type).getComponentType();
                return part.getKind() == TypeKind.ARRAY ? ((ArrayType) part).getComponentType().getKind().isPrimitive()
                        : part.getKind().isPrimitive() || isOwn(((DeclaredType) part).asElement());
            }
            if (type.getKind().isPrimitive() || type.getKind() == TypeKind.TYPEVAR) {
                return true;
            }
            Element element = ((DeclaredType) type).asElement();
            return isOwn(element) || Set.of("String", "StringBuilder", "Integer", "ArrayList", "List", "Iterator", "Iterable",
                    "Comparable").contains(element.getSimpleName().toString()) || EXCEPTIONS.contains(element.getSimpleName().toString());
        }

        @Override
        public Void visitMethodInvocation(MethodInvocationTree tree, Void nothing) {
            ExecutableElement target = (ExecutableElement) element(tree.getMethodSelect());
            TypeElement owner = (TypeElement) target.getEnclosingElement();
            if (isOwn(owner)) {
                called.computeIfAbsent(method, m -> new java.util.HashSet<>()).add(target);
            } else if (!isInLibrary(owner.getSimpleName().toString(), target)) {
                fault(tree, 4, "a call of " + owner.getSimpleName() + "." + target);
            }
            if (method == null && !target.getSimpleName().contentEquals("values")) {
                fault(tree, 5, "a call outside of a method");
            }
            return super.visitMethodInvocation(tree, nothing);
        }

        private boolean isInLibrary(String owner, ExecutableElement target) {
            String name = target.getSimpleName().toString();
            switch (owner) {
                case "Math": case "Integer": case "Long":
                    return OF_NUMBERS.contains(name) && target.getReturnType().getKind() != TypeKind.DOUBLE
                            && target.getReturnType().getKind() != TypeKind.FLOAT;
                case "ArrayList": case "List":
                    return OF_LISTS.contains(name);
                case "Arrays":
                    return OF_ARRAYS.contains(name) && !target.toString().contains("Object");
                case "Object": case "Enum":
                    return name.equals("<init>");
                default:
                    return LIBRARY.contains(owner.replace("Abstract", "") + "." + target);
            }
        }

        @Override
        public Void visitNewClass(NewClassTree tree, Void nothing) {
            Element made = element(tree.getIdentifier());
            boolean isKnown = isOwn(made) || EXCEPTIONS.contains(made.getSimpleName().toString())
                    || Set.of("StringBuilder", "String", "ArrayList").contains(made.getSimpleName().toString());
            if (!isKnown) {
                fault(tree, 4, "a new " + made);
            }
            if (isOwn(made) && method != null && element(tree) != null) {
                called.computeIfAbsent(method, m -> new java.util.HashSet<>()).add(element(tree));
            }
            lookIfMadeInLoop(tree);
            return super.visitNewClass(tree, nothing);
        }

        @Override
        public Void visitNewArray(NewArrayTree tree, Void nothing) {
            for (ExpressionTree length : tree.getDimensions()) {
                if (!length.toString().matches("[A-Z0-9_ +*()]+")) {
                    fault(tree, 7, "an array whose length is no constant: " + tree);
                }
            }
            lookIfMadeInLoop(tree);
            return super.visitNewArray(tree, nothing);
        }

        private void lookIfMadeInLoop(Tree tree) {
            if (loops > 0 && method != null && method.getKind() != ElementKind.CONSTRUCTOR) {
                fault(tree, 12, "an object is made in a loop");
            }
        }

        @Override
        public Void visitThrow(com.sun.source.tree.ThrowTree tree, Void nothing) {
            if (method == null || method.getKind() == ElementKind.CONSTRUCTOR || !tree.toString().matches("throw new \\w+\\((\"[^\"]*\")?\\);?")) {
                fault(tree, 6, tree.toString());
            }
            return super.visitThrow(tree, nothing);
        }

        @Override
        public Void visitCatch(CatchTree tree, Void nothing) {
            if (!Set.of("IllegalStateException", "IllegalArgumentException", "UnsupportedOperationException",
                    "NoSuchElementException").contains(tree.getParameter().getType().toString())) {
                fault(tree, 6, "catches what the machine may throw");
            }
            return super.visitCatch(tree, nothing);
        }

        @Override
        public Void visitTry(TryTree tree, Void nothing) {
            if (tree.getFinallyBlock() != null || !tree.getResources().isEmpty()) {
                fault(tree, 6, "finally, or try with resources");
            }
            return super.visitTry(tree, nothing);
        }

        @Override
        public Void visitBinary(BinaryTree tree, Void nothing) {
            TypeMirror left = type(tree.getLeftOperand());
            TypeMirror right = type(tree.getRightOperand());
            boolean isOfTexts = isText(left) || isText(right);
            if (isOfTexts && tree.getKind() == Tree.Kind.PLUS) {
                fault(tree, 10, "texts are joined by +: " + tree);
            }
            if (isOfTexts && (tree.getKind() == Tree.Kind.EQUAL_TO || tree.getKind() == Tree.Kind.NOT_EQUAL_TO)) {
                fault(tree, 6, "texts are compared: " + tree);
            }
            boolean isDivision = tree.getKind() == Tree.Kind.DIVIDE || tree.getKind() == Tree.Kind.REMAINDER;
            boolean isWhole = right.getKind() != TypeKind.DOUBLE && right.getKind() != TypeKind.FLOAT;
            if (isDivision && isWhole && !tree.getRightOperand().toString().matches("[A-Z_]+|[1-9]\\d*")) {
                fault(tree, 7, "a divisor that is no constant: " + tree);
            }
            return super.visitBinary(tree, nothing);
        }

        @Override
        public Void visitCompoundAssignment(CompoundAssignmentTree tree, Void nothing) {
            boolean isDivision = tree.getKind() == Tree.Kind.DIVIDE_ASSIGNMENT || tree.getKind() == Tree.Kind.REMAINDER_ASSIGNMENT;
            if (isDivision || isText(type(tree.getVariable()))) {
                fault(tree, isDivision ? 7 : 10, tree.toString());
            }
            return super.visitCompoundAssignment(tree, nothing);
        }

        private boolean isText(TypeMirror type) {
            return type.getKind() == TypeKind.DECLARED
                    && Set.of("String", "Integer").contains(((DeclaredType) type).asElement().getSimpleName().toString());
        }

        @Override
        public Void visitSwitch(SwitchTree tree, Void nothing) {
            if (isText(type(tree.getExpression()))) {
                fault(tree, 10, "a switch on a text");
            }
            return super.visitSwitch(tree, nothing);
        }

        @Override
        public Void visitTypeCast(TypeCastTree tree, Void nothing) {
            if (!type(tree.getType()).getKind().isPrimitive()) {
                fault(tree, 6, "a cast of a reference");
            }
            return super.visitTypeCast(tree, nothing);
        }

        @Override
        public Void visitLiteral(LiteralTree tree, Void nothing) {
            String text = tree.getValue() instanceof String || tree.getValue() instanceof Character ? "" + tree.getValue() : "";
            for (char sign : text.toCharArray()) {
                if (sign < 1 || sign > 127) {
                    fault(tree, 4, "a constant with the sign " + (int) sign);
                }
            }
            return super.visitLiteral(tree, nothing);
        }

        // ---- loops

        @Override
        public Void visitForLoop(ForLoopTree tree, Void nothing) {
            lookForBound(tree, tree.getCondition());
            loops++;
            super.visitForLoop(tree, nothing);
            loops--;
            return null;
        }

        @Override
        public Void visitWhileLoop(WhileLoopTree tree, Void nothing) {
            lookForBound(tree, tree.getCondition());
            loops++;
            super.visitWhileLoop(tree, nothing);
            loops--;
            return null;
        }

        @Override
        public Void visitDoWhileLoop(DoWhileLoopTree tree, Void nothing) {
            lookForBound(tree, tree.getCondition());
            loops++;
            super.visitDoWhileLoop(tree, nothing);
            loops--;
            return null;
        }

        @Override
        public Void visitEnhancedForLoop(EnhancedForLoopTree tree, Void nothing) {
            if (type(tree.getExpression()).getKind() != TypeKind.ARRAY) {
                fault(tree, 12, "for over what is no array makes an iterator");
            }
            loops++;
            super.visitEnhancedForLoop(tree, nothing);
            loops--;
            return null;
        }

        private void lookForBound(Tree loop, ExpressionTree condition) {
            if (condition == null || !condition.toString().matches(".*(<|>|!= null).*")) {
                fault(loop, 9, "no end can be seen");
            }
        }
    }
}
