import com.sun.source.tree.*;
import com.sun.source.util.*;
import java.io.File;
import java.util.*;
import javax.lang.model.element.*;
import javax.lang.model.type.TypeKind;
import javax.tools.*;

/**
 * The rules of ../shared/LANGUAGE.md that can be read off the source, by the JDK's own parser; each report begins
 * with its rule. Exceptions are not looked for by rule 6, but refused: the document names none.
 */
public final class RulesTest {
  static final String SOURCE = "src/main/java/PackWatch.java";
  static final int DEEP_MOST = 8, LINES_MOST = 60, FIELDS_MOST = 20, CLASSES_MOST = 12, PARAMETERS_MOST = 7;
  static final Set<String> IMPORTS = Set.of("java.util.Arrays", "java.util.ArrayList", "java.util.List",
      "java.util.Iterator", "java.util.NoSuchElementException");
  /** Rule 4, as far as the class goes: what else is called of the library is reported. */
  static final Set<String> LIBRARY = Set.of("Math.min", "Math.max", "Math.abs", "Math.floorDiv", "Math.floorMod",
      "Integer.bitCount", "Integer.numberOfTrailingZeros", "Integer.compare", "System.arraycopy",
      "Arrays.fill", "Arrays.copyOf", "Arrays.copyOfRange", "Array.clone");
  static final Set<Tree.Kind> NEVER = EnumSet.of(Tree.Kind.LAMBDA_EXPRESSION, Tree.Kind.MEMBER_REFERENCE, Tree.Kind.THROW,
      Tree.Kind.TRY, Tree.Kind.SYNCHRONIZED, Tree.Kind.ASSERT, Tree.Kind.TYPE_CAST, Tree.Kind.PACKAGE);
  static final Set<TypeKind> NUMBERS = EnumSet.of(TypeKind.INT, TypeKind.LONG, TypeKind.SHORT, TypeKind.BYTE,
      TypeKind.CHAR, TypeKind.DOUBLE, TypeKind.FLOAT);

  static int wrong = 0;
  static void check(boolean fits, String what) {
    if (!fits) { wrong++; System.out.println(what); }
  }

  static final class Reader extends TreePathScanner<Void, Element> {
    final Trees trees;
    final LineMap lines;
    final CompilationUnitTree unit;
    final Map<Element, Set<Element>> calls = new LinkedHashMap<>();
    final Set<String> publicNames = new HashSet<>();
    int classes = 0;

    Reader(Trees trees, CompilationUnitTree unit) {
      this.trees = trees;
      this.unit = unit;
      this.lines = unit.getLineMap();
    }
    Element element() { return trees.getElement(getCurrentPath()); }
    long line(Tree t) { return lines.getLineNumber(trees.getSourcePositions().getStartPosition(unit, t)); }
    boolean within(Element e) {
      Element top = e;
      while (top.getEnclosingElement() != null && top.getEnclosingElement().getKind() != ElementKind.PACKAGE) top = top.getEnclosingElement();
      return top.getSimpleName().contentEquals("PackWatch");
    }

    @Override public Void scan(Tree t, Element in) {
      if (t != null) {
        boolean numbers = t instanceof TypeCastTree && ((TypeCastTree) t).getType() instanceof PrimitiveTypeTree;
        check(!NEVER.contains(t.getKind()) || numbers, "rules 2, 6: " + t.getKind() + " in line " + line(t));
      }
      return super.scan(t, in);
    }

    @Override public Void visitImport(ImportTree t, Element in) {
      check(!t.isStatic() && IMPORTS.contains(t.getQualifiedIdentifier().toString()), "rule 4: " + t);
      return null;
    }

    @Override public Void visitClass(ClassTree t, Element in) {
      Element e = element();
      classes++;
      int fields = 0;
      for (Tree m : t.getMembers()) {
        boolean field = m instanceof VariableTree;
        boolean constant = field && ((VariableTree) m).getModifiers().getFlags().contains(Modifier.STATIC);
        if (constant) checkConstant((VariableTree) m);
        if (field && !constant) fields++;
        check(!(m instanceof BlockTree), "rule 5: an initialiser block in " + t.getSimpleName());
      }
      check(fields <= FIELDS_MOST, "rule 11: " + fields + " fields in " + t.getSimpleName());
      return super.visitClass(t, e);
    }
    void checkConstant(VariableTree v) {
      String type = v.getType().toString();
      check(v.getModifiers().getFlags().contains(Modifier.FINAL), "rule 5: not final: " + v.getName());
      check(Set.of("int", "long", "boolean", "char", "String", "int[]", "long[]", "char[]", "byte[]").contains(type),
          "rule 5: a constant of " + type + ": " + v.getName());
      check(!type.endsWith("[]") || v.getInitializer() instanceof NewArrayTree, "rule 5: not written out: " + v.getName());
    }

    @Override public Void visitMethod(MethodTree t, Element in) {
      Element e = element();
      calls.computeIfAbsent(e, k -> new LinkedHashSet<>());
      long from = line(t), to = lines.getLineNumber(trees.getSourcePositions().getEndPosition(unit, t));
      check(to - from + 1 <= LINES_MOST, "rule 11: " + e + " has " + (to - from + 1) + " lines");
      check(t.getParameters().size() <= PARAMETERS_MOST, "rule 11: parameters of " + e);
      check(!Set.of("equals", "hashCode", "toString").contains(t.getName().toString()), "rule 6: " + e);
      if (e.getModifiers().contains(Modifier.PUBLIC)) publicNames.add(t.getName().toString());
      return super.visitMethod(t, e);
    }

    @Override public Void visitMethodInvocation(MethodInvocationTree t, Element in) {
      Element called = element();
      check(called != null, "not known: " + t);
      if (called != null && !called.getSimpleName().contentEquals("<init>")) {
        String name = called.getEnclosingElement().getSimpleName() + "." + called.getSimpleName();
        check(within(called) || LIBRARY.contains(name), "rule 4: " + name + " in line " + line(t));
        addCall(in, called);
      }
      return super.visitMethodInvocation(t, in);
    }
    @Override public Void visitNewClass(NewClassTree t, Element in) {
      Element called = element();
      check(called != null && within(called), "rules 3, 4: " + t);
      addCall(in, called);
      return super.visitNewClass(t, in);
    }
    /** What a field is made with is made by its class's constructors; those of a class are not told apart. */
    void addCall(Element in, Element called) {
      if (in == null || called == null) return;
      if (in instanceof TypeElement) {
        for (Element m : in.getEnclosedElements())
          if (m.getKind() == ElementKind.CONSTRUCTOR) calls.computeIfAbsent(m, k -> new LinkedHashSet<>()).add(called);
      } else calls.get(in).add(called);
    }

    @Override public Void visitBinary(BinaryTree t, Element in) {
      boolean joins = t.getKind() == Tree.Kind.PLUS && !NUMBERS.contains(trees.getTypeMirror(getCurrentPath()).getKind());
      check(!joins, "rule 10: a text joined by + in line " + line(t));
      return super.visitBinary(t, in);
    }

    /** How many calls stand open at once, this one counted; a library's call counts as one. */
    int depth(Element e, List<Element> above) {
      check(!above.contains(e), "rule 8: calls itself: " + above + " " + e);
      if (above.contains(e)) return 1;
      List<Element> here = new ArrayList<>(above);
      here.add(e);
      int below = e.getKind() == ElementKind.CONSTRUCTOR ? 1 : 0;
      for (Element c : calls.getOrDefault(e, Set.of())) below = Math.max(below, depth(c, here));
      if (below == 0) check(here.size() <= DEEP_MOST, "rule 11: " + here.size() + " calls deep: " + here);
      return 1 + below;
    }
    int deepest() {
      int deep = 0;
      for (Element e : calls.keySet()) deep = Math.max(deep, depth(e, List.of()));
      return deep;
    }
    void checkNames() {
      for (Element e : calls.keySet()) {
        String name = e.getSimpleName().toString();
        check(e.getModifiers().contains(Modifier.PUBLIC) || name.equals("<init>") || !publicNames.contains(name), "rule 1: " + e);
      }
    }
  }

  public static void main(String[] args) throws Exception {
    JavaCompiler compiler = ToolProvider.getSystemJavaCompiler();
    try (StandardJavaFileManager files = compiler.getStandardFileManager(null, null, null)) {
      JavacTask task = (JavacTask) compiler.getTask(null, files, null, List.of("-proc:none"), null,
          files.getJavaFileObjects(new File(args.length > 0 ? args[0] : SOURCE)));
      CompilationUnitTree unit = task.parse().iterator().next();
      task.analyze();
      Reader reader = new Reader(Trees.instance(task), unit);
      reader.scan(new TreePath(unit), null);
      reader.checkNames();
      check(reader.classes <= CLASSES_MOST, "rule 11: " + reader.classes + " classes");
      int deep = reader.deepest();
      check(deep <= DEEP_MOST, "rule 11: " + deep + " calls deep");
      check(deep > 1 && reader.publicNames.size() > 1, "nothing was read");
      System.out.println(wrong == 0 ? "the rules hold (" + deep + " calls deep, " + reader.classes + " classes)"
          : wrong + " things are not as the rules have it");
    }
    if (wrong != 0) System.exit(1);
  }
}
