import com.sun.source.tree.AssignmentTree;
import com.sun.source.tree.BinaryTree;
import com.sun.source.tree.BlockTree;
import com.sun.source.tree.ClassTree;
import com.sun.source.tree.CompilationUnitTree;
import com.sun.source.tree.EnhancedForLoopTree;
import com.sun.source.tree.ExpressionTree;
import com.sun.source.tree.ForLoopTree;
import com.sun.source.tree.IdentifierTree;
import com.sun.source.tree.MemberSelectTree;
import com.sun.source.tree.MethodInvocationTree;
import com.sun.source.tree.MethodTree;
import com.sun.source.tree.NewClassTree;
import com.sun.source.tree.ThrowTree;
import com.sun.source.tree.Tree;
import com.sun.source.tree.VariableTree;
import com.sun.source.tree.WhileLoopTree;
import com.sun.source.util.TreePath;
import com.sun.source.util.TreePathScanner;
import com.sun.source.util.Trees;
import java.lang.reflect.Method;
import java.util.ArrayList;
import java.util.HashSet;
import java.util.List;
import java.util.Map;
import java.util.Set;
import java.util.TreeMap;
import java.util.TreeSet;
import javax.lang.model.element.Element;
import javax.lang.model.element.ElementKind;
import javax.lang.model.element.ExecutableElement;
import javax.lang.model.element.Modifier;
import javax.lang.model.type.ArrayType;
import javax.lang.model.type.TypeKind;
import javax.lang.model.type.TypeMirror;

/** Walks over the class, part by part, and holds each against LANGUAGE.md. */
final class LanguageScan extends TreePathScanner<Void, Void> {
  private static final int MOST_CLASSES = 12;
  private static final int MOST_FIELDS = 20;
  private static final int MOST_LINES = 60;
  private static final int MOST_PARAMETERS = 7;
  private static final int MOST_DEPTH = 8;

  /** Rules 6, 9 and 10: what a text may be made of, as far as the class needs it. */
  private static final Set<String> KINDS = Set.of(
      "COMPILATION_UNIT", "IMPORT", "MODIFIERS", "CLASS", "METHOD", "VARIABLE", "PRIMITIVE_TYPE", "ARRAY_TYPE", "BLOCK",
      "EXPRESSION_STATEMENT", "EMPTY_STATEMENT", "IF", "FOR_LOOP", "ENHANCED_FOR_LOOP", "WHILE_LOOP", "DO_WHILE_LOOP",
      "SWITCH", "CASE", "BREAK", "CONTINUE", "LABELED_STATEMENT", "RETURN", "THROW", "IDENTIFIER", "MEMBER_SELECT",
      "METHOD_INVOCATION", "NEW_CLASS", "NEW_ARRAY", "ARRAY_ACCESS", "ASSIGNMENT", "CONDITIONAL_EXPRESSION", "PARENTHESIZED",
      "INT_LITERAL", "LONG_LITERAL", "BOOLEAN_LITERAL", "NULL_LITERAL",
      "POSTFIX_INCREMENT", "POSTFIX_DECREMENT", "PREFIX_INCREMENT", "PREFIX_DECREMENT", "UNARY_MINUS", "UNARY_PLUS",
      "BITWISE_COMPLEMENT", "LOGICAL_COMPLEMENT", "MULTIPLY", "DIVIDE", "REMAINDER", "PLUS", "MINUS", "LEFT_SHIFT",
      "RIGHT_SHIFT", "UNSIGNED_RIGHT_SHIFT", "LESS_THAN", "GREATER_THAN", "LESS_THAN_EQUAL", "GREATER_THAN_EQUAL",
      "EQUAL_TO", "NOT_EQUAL_TO", "AND", "XOR", "OR", "CONDITIONAL_AND", "CONDITIONAL_OR",
      "PLUS_ASSIGNMENT", "MINUS_ASSIGNMENT", "AND_ASSIGNMENT", "OR_ASSIGNMENT", "XOR_ASSIGNMENT");
  private static final Set<String> LIBRARY = Set.of(
      "java.lang.System.arraycopy", "java.util.Arrays.copyOf", "java.util.Arrays.copyOfRange", "java.util.Arrays.fill",
      "java.lang.Math.min", "java.lang.Math.max", "java.lang.Math.abs", "java.lang.Math.floorDiv", "java.lang.Math.floorMod",
      "java.lang.Integer.bitCount", "java.lang.Integer.compare", "java.lang.Integer.min", "java.lang.Integer.max",
      "java.lang.Long.bitCount");
  private static final Set<String> THROWN = Set.of(
      "java.lang.IllegalStateException", "java.lang.IllegalArgumentException", "java.lang.IndexOutOfBoundsException");
  private static final Set<TypeKind> NUMBERS = Set.of(TypeKind.INT, TypeKind.LONG, TypeKind.SHORT, TypeKind.BYTE, TypeKind.CHAR);

  private final Due due;
  private final CompilationUnitTree unit;
  private final Trees trees;
  private int classes = 0;
  private String method = "";
  private boolean isConstructor = false;
  private final Set<String> faceNames = new HashSet<>();
  /** By method: which of the class's own it calls. */
  private final Map<String, TreeSet<String>> calls = new TreeMap<>();
  private final Map<String, Set<Modifier>> modifiers = new TreeMap<>();

  LanguageScan(Due due, CompilationUnitTree unit, Trees trees) {
    this.due = due;
    this.unit = unit;
    this.trees = trees;
    for (Method each : Undertext.class.getDeclaredMethods()) {
      if (java.lang.reflect.Modifier.isPublic(each.getModifiers())) faceNames.add(each.getName());
    }
  }

  private void fine(boolean isFine, int rule, String what) {
    due.compare("true", "rule " + rule + ": " + method + ": " + what, String.valueOf(isFine));
  }

  private Element element(Tree tree) {
    return trees.getElement(new TreePath(getCurrentPath(), tree));
  }

  private long lineOf(long position) {
    return unit.getLineMap().getLineNumber(position);
  }

  private static boolean isOwn(Element element) {
    for (Element each = element; each != null; each = each.getEnclosingElement()) {
      if (each.getSimpleName().contentEquals("Undertext")) return true;
    }
    return false;
  }

  /** What the compiler itself puts in has no place in the text. */
  private boolean isWritten(Tree tree) {
    return trees.getSourcePositions().getEndPosition(unit, tree) >= 0;
  }

  @Override public Void scan(Tree tree, Void none) {
    if (tree != null) fine(KINDS.contains(tree.getKind().name()), 10, tree.getKind() + " " + (KINDS.contains(tree.getKind().name()) ? "" : tree));
    return super.scan(tree, none);
  }

  @Override public Void visitClass(ClassTree tree, Void none) {
    classes++;
    String before = method;
    method = tree.getSimpleName().toString();
    Set<Modifier> flags = tree.getModifiers().getFlags();
    Element element = trees.getElement(getCurrentPath());
    boolean isFace = method.equals("Undertext");
    fine(isFace ? flags.containsAll(Set.of(Modifier.PUBLIC, Modifier.FINAL)) : flags.contains(Modifier.STATIC), 1, "modifiers " + flags);
    fine(isFace || !flags.contains(Modifier.PUBLIC) && !flags.contains(Modifier.PROTECTED), 1, "hidden inside");
    fine(isFace || element.getEnclosingElement().getKind() == ElementKind.CLASS, 2, "no local class");
    fine(tree.getExtendsClause() == null && tree.getImplementsClause().isEmpty(), 2, "stands alone");
    int fields = 0;
    for (Tree each : tree.getMembers()) {
      if (each instanceof VariableTree field && !field.getModifiers().getFlags().contains(Modifier.STATIC)) fields++;
      fine(!(each instanceof BlockTree), 5, "no initialiser block");
    }
    fine(fields <= MOST_FIELDS, 11, fields + " fields");
    super.visitClass(tree, none);
    method = before;
    return null;
  }

  @Override public Void visitMethod(MethodTree tree, Void none) {
    if (!isWritten(tree)) return null;
    String before = method;
    ExecutableElement element = (ExecutableElement) trees.getElement(getCurrentPath());
    isConstructor = element.getKind() == ElementKind.CONSTRUCTOR;
    method = nameOf(element);
    calls.put(method, new TreeSet<>());
    Set<Modifier> flags = tree.getModifiers().getFlags();
    modifiers.put(method, flags);
    String name = tree.getName().toString();
    boolean isOfFace = flags.contains(Modifier.PUBLIC);
    fine(isOfFace || flags.contains(Modifier.PRIVATE), 1, "public or private");
    fine(isOfFace || !faceNames.contains(name), 1, "bears no name of the face");
    fine(!flags.contains(Modifier.SYNCHRONIZED), 6, "not synchronized");
    fine(!Set.of("equals", "hashCode", "toString", "finalize", "clone").contains(name), 6, "no such method of its own");
    fine(isOfFace || tree.getThrows().isEmpty(), 6, "throws nothing that is not of the face");
    fine(tree.getParameters().size() <= MOST_PARAMETERS, 11, tree.getParameters().size() + " parameters");
    long start = trees.getSourcePositions().getStartPosition(unit, tree);
    long end = trees.getSourcePositions().getEndPosition(unit, tree);
    fine(lineOf(end) - lineOf(start) < MOST_LINES, 11, "short");
    fine(isFineType(element.getReturnType()) || element.getReturnType().getKind() == TypeKind.VOID, 3, "answers " + element.getReturnType());
    super.visitMethod(tree, none);
    method = before;
    isConstructor = false;
    return null;
  }

  private static String nameOf(Element element) {
    return element.getEnclosingElement().getSimpleName() + "." + element;
  }

  /** Rule 3. */
  private static boolean isFineType(TypeMirror type) {
    if (type.getKind() == TypeKind.DECLARED) return type.toString().startsWith("Undertext");
    if (type instanceof ArrayType row) {
      TypeMirror of = row.getComponentType();
      return of instanceof ArrayType inner ? NUMBERS.contains(inner.getComponentType().getKind()) : isFineType(of);
    }
    return NUMBERS.contains(type.getKind()) || type.getKind() == TypeKind.BOOLEAN;
  }

  @Override public Void visitVariable(VariableTree tree, Void none) {
    Element element = trees.getElement(getCurrentPath());
    String name = tree.getName().toString();
    fine(isFineType(element.asType()), 3, name + " is " + element.asType());
    Set<Modifier> flags = tree.getModifiers().getFlags();
    if (element.getKind() == ElementKind.FIELD) {
      fine(flags.contains(Modifier.PRIVATE) || flags.contains(Modifier.PUBLIC) && flags.contains(Modifier.STATIC), 1, name + " is hidden");
    }
    if (flags.contains(Modifier.STATIC)) {
      fine(flags.contains(Modifier.FINAL), 5, name + " is final");
      fine(element.asType().getKind().isPrimitive(), 5, name + " is a number");
    }
    return super.visitVariable(tree, none);
  }

  @Override public Void visitMethodInvocation(MethodInvocationTree tree, Void none) {
    Element called = element(tree.getMethodSelect());
    if (isOwn(called)) {
      if (!method.isEmpty() && calls.containsKey(method)) calls.get(method).add(nameOf(called));
      else fine(false, 12, "calls " + called + " outside of methods");
    } else {
      String name = called.getEnclosingElement() + "." + called.getSimpleName();
      fine(LIBRARY.contains(name) || name.endsWith(".<init>"), 4, name);
    }
    return super.visitMethodInvocation(tree, none);
  }

  @Override public Void visitNewClass(NewClassTree tree, Void none) {
    String made = trees.getTypeMirror(getCurrentPath()).toString();
    boolean isThrown = getCurrentPath().getParentPath().getLeaf() instanceof ThrowTree;
    fine(isThrown ? THROWN.contains(made) : made.startsWith("Undertext."), isThrown ? 6 : 4, "makes " + made);
    fine(tree.getClassBody() == null, 2, "no nameless class");
    return super.visitNewClass(tree, none);
  }

  @Override public Void visitThrow(ThrowTree tree, Void none) {
    fine(tree.getExpression() instanceof NewClassTree, 6, "throws a new one");
    fine(tree.getExpression() instanceof NewClassTree made && made.getArguments().isEmpty(), 6, "without a text");
    fine(!isConstructor, 6, "no constructor throws");
    return super.visitThrow(tree, none);
  }

  /** Rule 9: the counter against its bound stands in the loop's head, and the body leaves the counter alone. */
  @Override public Void visitForLoop(ForLoopTree tree, Void none) {
    fine(tree.getCondition() != null && tree.getUpdate().size() == 1 && tree.getInitializer().size() == 1, 9, "a loop that counts");
    boolean isCounter = tree.getInitializer().get(0) instanceof VariableTree;
    fine(isCounter, 9, "a loop with a counter of its own");
    if (isCounter) {
      String counter = ((VariableTree) tree.getInitializer().get(0)).getName().toString();
      String update = tree.getUpdate().get(0).getExpression().toString();
      boolean isUp = update.equals(counter + "++");
      fine(isUp || update.equals(counter + "--"), 9, "counts by one: " + update);
      fine(bounds(tree.getCondition(), counter, isUp), 9, "bounds " + counter + ": " + tree.getCondition());
      fine(!changes(tree.getStatement(), counter), 9, "leaves " + counter + " alone");
    }
    return super.visitForLoop(tree, none);
  }

  private static boolean bounds(ExpressionTree condition, String counter, boolean isUp) {
    if (condition instanceof BinaryTree pair) {
      if (pair.getKind() == Tree.Kind.CONDITIONAL_AND) {
        return bounds(pair.getLeftOperand(), counter, isUp) || bounds(pair.getRightOperand(), counter, isUp);
      }
      boolean isBelow = pair.getKind() == Tree.Kind.LESS_THAN || pair.getKind() == Tree.Kind.LESS_THAN_EQUAL;
      boolean isAbove = pair.getKind() == Tree.Kind.GREATER_THAN || pair.getKind() == Tree.Kind.GREATER_THAN_EQUAL;
      return pair.getLeftOperand().toString().equals(counter) && (isUp ? isBelow : isAbove);
    }
    return false;
  }

  private static boolean changes(Tree body, String counter) {
    List<String> changed = new ArrayList<>();
    new com.sun.source.util.TreeScanner<Void, Void>() {
      @Override public Void visitAssignment(AssignmentTree tree, Void none) {
        changed.add(tree.getVariable().toString());
        return super.visitAssignment(tree, none);
      }

      @Override public Void visitUnary(com.sun.source.tree.UnaryTree tree, Void none) {
        if (tree.getKind().name().contains("CREMENT")) changed.add(tree.getExpression().toString());
        return super.visitUnary(tree, none);
      }

      @Override public Void visitCompoundAssignment(com.sun.source.tree.CompoundAssignmentTree tree, Void none) {
        changed.add(tree.getVariable().toString());
        return super.visitCompoundAssignment(tree, none);
      }
    }.scan(body, null);
    return changed.contains(counter);
  }

  @Override public Void visitWhileLoop(WhileLoopTree tree, Void none) {
    fine(!tree.getCondition().toString().equals("(true)"), 9, "a loop with an end");
    return super.visitWhileLoop(tree, none);
  }

  /** Rule 12: over an array no iterator is made. */
  @Override public Void visitEnhancedForLoop(EnhancedForLoopTree tree, Void none) {
    TypeMirror over = trees.getTypeMirror(new TreePath(getCurrentPath(), tree.getExpression()));
    fine(over.getKind() == TypeKind.ARRAY, 12, "a loop over an array");
    return super.visitEnhancedForLoop(tree, none);
  }

  @Override public Void visitIdentifier(IdentifierTree tree, Void none) {
    fine(!Set.of("Throwable", "Thread", "Random", "Object").contains(tree.getName().toString()), 4, "names " + tree.getName());
    return super.visitIdentifier(tree, none);
  }

  @Override public Void visitMemberSelect(MemberSelectTree tree, Void none) {
    fine(!tree.getIdentifier().contentEquals("class"), 4, "names no class as a thing");
    return super.visitMemberSelect(tree, none);
  }

  /** What shows when all has been seen: how many classes there are, and how calls stand in one another. */
  void end() {
    method = "the file";
    fine(classes <= MOST_CLASSES, 11, classes + " classes");
    fine(calls.size() > faceNames.size(), 1, "methods were found");
    calls.forEach((from, to) -> {
      if (!to.contains(from)) return;
      method = from;
      fine(modifiers.get(from).containsAll(Set.of(Modifier.PRIVATE, Modifier.STATIC)), 8, "calls itself, private and static");
    });
    for (String each : calls.keySet()) {
      method = each;
      int depth = depthOf(each, new ArrayList<>());
      fine(depth <= MOST_DEPTH, 11, "calls " + depth + " deep");
    }
  }

  /** Calls in one another other than by a method that calls itself are too deep without an end. */
  private int depthOf(String from, List<String> open) {
    if (open.contains(from)) return MOST_DEPTH + 1;
    List<String> more = new ArrayList<>(open);
    more.add(from);
    int deepest = 0;
    for (String each : calls.getOrDefault(from, new TreeSet<>())) {
      if (!each.equals(from)) deepest = Math.max(deepest, depthOf(each, more));
    }
    return deepest + 1;
  }
}
