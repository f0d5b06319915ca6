import com.sun.source.tree.*;
import com.sun.source.util.JavacTask;
import com.sun.source.util.TreePath;
import com.sun.source.util.TreePathScanner;
import com.sun.source.util.Trees;
import java.lang.reflect.Method;
import java.nio.file.Files;
import java.nio.file.Path;
import java.util.*;
import javax.lang.model.element.Element;
import javax.lang.model.element.ElementKind;
import javax.lang.model.element.ExecutableElement;
import javax.lang.model.element.Modifier;
import javax.lang.model.element.TypeElement;
import javax.lang.model.type.TypeMirror;
import javax.tools.ToolProvider;

/** The rules of LANGUAGE.md that can be seen in the source, by their numbers. */
public final class LanguageTest {
  private static final Path SOURCE = Path.of("src/main/java/InquiryBench.java");
  private static final String FACE = """
      days(int) view(int,int) person(int,int) personOf(int,int) paper(int,int,int,int) lose(int) paperOf(int,int)
      stamp(int,int,int) stamps(int,int,int,int) gap(int) clash(int) span(int,boolean) sent(int,boolean) hand(int,int,boolean) before(int,int)
      knew(int,int,int) feed(long,int) read() line(int,int,int) why(int,int)
      saying(int,int,int,int,boolean,int) quarrel(int,int,int) impossible()
      finding(int,int,int,int) findingOf(int,int) warn(int,int)
      question(int,int) round(int) row(int,int) alterRow(int,int,int) dropRow() judge()
      sheet(int,int,int) put(int,int,int) item(int,int,int) shelf(int,int,int) taken(int,int) deal(int,int,int) trace(int) many(int)
      keep() again()""";
  /** Less than the rules leave: what the program needs. */
  private static final Set<String> LIBRARY = Set.of("java.lang.String.length", "java.lang.String.charAt", "java.lang.Integer.bitCount",
      "java.lang.Math.min", "java.lang.Math.max", "java.lang.System.arraycopy", "java.lang.Object.<init>");
  private static final Set<Tree.Kind> BANNED = EnumSet.of(Tree.Kind.THROW, Tree.Kind.TRY, Tree.Kind.CATCH, Tree.Kind.SYNCHRONIZED,
      Tree.Kind.ASSERT, Tree.Kind.LAMBDA_EXPRESSION, Tree.Kind.MEMBER_REFERENCE, Tree.Kind.SWITCH_EXPRESSION, Tree.Kind.IMPORT,
      Tree.Kind.PACKAGE, Tree.Kind.ANNOTATION, Tree.Kind.DOUBLE_LITERAL, Tree.Kind.FLOAT_LITERAL);
  private static final int LINES = 60, PARAMETERS = 7, CLASSES = 12, FIELDS = 20, CALLS = 8;
  private static int wrong = 0;

  private static void broken(int rule, String what) {
    wrong++;
    System.out.println("rule " + rule + ": " + what);
  }

  // ---- the face, as the machine sees it

  private static void face() {
    Class<?> c = InquiryBench.class;
    if (c.getModifiers() != (java.lang.reflect.Modifier.PUBLIC | java.lang.reflect.Modifier.FINAL)) broken(1, "the class is not public and final alone");
    Set<String> due = new TreeSet<>(List.of(FACE.trim().split("\\s+"))), is = new TreeSet<>(), names = new HashSet<>();
    for (Method m : c.getDeclaredMethods()) {
      if (java.lang.reflect.Modifier.isPrivate(m.getModifiers()) || m.isSynthetic()) continue;
      StringJoiner types = new StringJoiner(",");
      for (Class<?> t : m.getParameterTypes()) types.add(t.getName());
      is.add(m.getName() + "(" + types + ")");
      names.add(m.getName());
      if (m.getModifiers() != java.lang.reflect.Modifier.PUBLIC || m.getReturnType() != int.class) broken(1, m + " is not as in the face");
    }
    if (!is.equals(due)) broken(1, "the face is " + is);
    if (c.getDeclaredConstructors().length != 1 || c.getConstructors().length != 1) broken(1, "not just one constructor");
    for (var f : c.getDeclaredFields()) {
      boolean told = Set.of("BAD", "FULL", "NONE", "STATE").contains(f.getName());
      if (told != java.lang.reflect.Modifier.isPublic(f.getModifiers())) broken(1, f + " is not as in the face");
      if (!told && !java.lang.reflect.Modifier.isPrivate(f.getModifiers())) broken(1, f + " is not private");
    }
    List<Class<?>> all = new ArrayList<>(List.of(c.getDeclaredClasses()));
    for (Class<?> k : all) {
      if (!java.lang.reflect.Modifier.isStatic(k.getModifiers())) broken(1, k + " is not static");
      for (Method m : k.getDeclaredMethods()) if (names.contains(m.getName())) broken(1, m + " bears a public name");
    }
    for (Method m : c.getDeclaredMethods()) {
      if (java.lang.reflect.Modifier.isPrivate(m.getModifiers()) && names.contains(m.getName())) broken(1, m + " bears a public name");
    }
    if (all.size() + 1 > CLASSES) broken(11, "there are " + (all.size() + 1) + " classes");
  }

  // ---- the source, as the compiler sees it

  private static final class Look extends TreePathScanner<Void, Void> {
    private final Trees trees;
    private final CompilationUnitTree unit;
    final Map<String, Set<String>> calls = new TreeMap<>();
    final Map<String, Boolean> isPrivate = new HashMap<>();
    private String method = "";

    Look(Trees trees, CompilationUnitTree unit) {
      this.trees = trees;
      this.unit = unit;
    }

    private long line(Tree t) { return unit.getLineMap().getLineNumber(trees.getSourcePositions().getStartPosition(unit, t)); }
    private long endLine(Tree t) { return unit.getLineMap().getLineNumber(trees.getSourcePositions().getEndPosition(unit, t)); }
    private String nameOf(Element e) {
      return e.getEnclosingElement() + "." + e.getSimpleName() + (e instanceof ExecutableElement x ? x.getParameters().size() : "");
    }
    private boolean isOwn(Element e) {
      Element c = e;
      while (c != null && !(c instanceof TypeElement t && t.getQualifiedName().contentEquals("InquiryBench"))) c = c.getEnclosingElement();
      return c != null;
    }

    @Override public Void scan(Tree t, Void v) {
      if (t != null && BANNED.contains(t.getKind())) broken(6, t.getKind() + " in line " + line(t));
      return super.scan(t, v);
    }
    @Override public Void visitClass(ClassTree c, Void v) {
      Tree above = getCurrentPath().getParentPath().getLeaf();
      if (!(above instanceof CompilationUnitTree) && !(above instanceof ClassTree)) broken(2, "a class in a method in line " + line(c));
      int fields = 0;
      for (Tree m : c.getMembers()) {
        if (m instanceof BlockTree) broken(5, "an initialiser block in line " + line(m));
        if (!(m instanceof VariableTree f)) continue;
        boolean isStatic = f.getModifiers().getFlags().contains(Modifier.STATIC);
        if (isStatic && !f.getModifiers().getFlags().contains(Modifier.FINAL)) broken(5, f.getName() + " is static and not final");
        if (!isStatic) fields++;
      }
      if (fields > FIELDS) broken(11, c.getSimpleName() + " has " + fields + " fields");
      return super.visitClass(c, v);
    }
    @Override public Void visitMethod(MethodTree m, Void v) {
      Element e = trees.getElement(getCurrentPath());
      String was = method;
      method = nameOf(e);
      calls.putIfAbsent(method, new TreeSet<>());
      isPrivate.put(method, e.getModifiers().contains(Modifier.PRIVATE));
      if (m.getParameters().size() > PARAMETERS) broken(11, method + " takes " + m.getParameters().size());
      if (endLine(m) - line(m) + 1 > LINES) broken(11, method + " is " + (endLine(m) - line(m) + 1) + " lines long");
      if (Set.of("equals", "hashCode", "toString").contains(m.getName().toString())) broken(6, method);
      super.visitMethod(m, v);
      method = was;
      return null;
    }
    @Override public Void visitMethodInvocation(MethodInvocationTree m, Void v) {
      Element e = trees.getElement(new TreePath(getCurrentPath(), m.getMethodSelect()));
      String name = e.getEnclosingElement() + "." + e.getSimpleName();
      if (isOwn(e)) calls.computeIfAbsent(method, k -> new TreeSet<>()).add(nameOf(e));
      else if (!LIBRARY.contains(name)) broken(4, name + " in line " + line(m));
      return super.visitMethodInvocation(m, v);
    }
    @Override public Void visitNewClass(NewClassTree n, Void v) {
      if (n.getClassBody() != null) broken(2, "a class without a name in line " + line(n));
      inConstructor(n);
      return super.visitNewClass(n, v);
    }
    @Override public Void visitNewArray(NewArrayTree n, Void v) {
      inConstructor(n);
      return super.visitNewArray(n, v);
    }
    /** Narrower than the rule: what calls don't make needs no counting. */
    private void inConstructor(Tree t) {
      if (!method.isEmpty() && !method.contains(".<init>")) broken(12, "made in a call, in line " + line(t));
    }
    @Override public Void visitBinary(BinaryTree b, Void v) {
      TypeMirror t = trees.getTypeMirror(getCurrentPath());
      if (b.getKind() == Tree.Kind.PLUS && t.toString().equals("java.lang.String")) broken(10, "texts joined by + in line " + line(b));
      for (Tree side : List.of(b.getLeftOperand(), b.getRightOperand())) {
        TypeMirror s = trees.getTypeMirror(new TreePath(getCurrentPath(), side));
        boolean same = b.getKind() == Tree.Kind.EQUAL_TO || b.getKind() == Tree.Kind.NOT_EQUAL_TO;
        if (same && s.toString().startsWith("java.lang.")) broken(6, "== of " + s + " in line " + line(b));
      }
      return super.visitBinary(b, v);
    }
    @Override public Void visitVariable(VariableTree f, Void v) {
      Element e = trees.getElement(getCurrentPath());
      String type = e.asType().toString().replace("[]", "").replace("InquiryBench.", "");
      boolean fits = Set.of("int", "long", "boolean", "java.lang.String").contains(type) || isOwn(e) && Character.isUpperCase(type.charAt(0)) && !type.contains(".");
      if (!fits) broken(3, f.getName() + " is of " + e.asType());
      boolean isStatic = e.getKind() == ElementKind.FIELD && e.getModifiers().contains(Modifier.STATIC);
      if (isStatic && !Set.of("int", "int[]", "long", "boolean", "java.lang.String").contains(e.asType().toString())) broken(5, f.getName() + " is static");
      return super.visitVariable(f, v);
    }
    @Override public Void visitLiteral(LiteralTree l, Void v) {
      if (l.getValue() instanceof String s && s.chars().anyMatch(ch -> ch < 1 || ch > 127)) broken(4, "a sign above 127 in line " + line(l));
      return super.visitLiteral(l, v);
    }
  }

  // ---- calls

  private static Set<String> reached(Map<String, Set<String>> calls, String from) {
    Set<String> seen = new TreeSet<>();
    Deque<String> left = new ArrayDeque<>(calls.getOrDefault(from, Set.of()));
    while (!left.isEmpty()) if (seen.add(left.peek())) left.addAll(calls.getOrDefault(left.pop(), Set.of())); else left.pop();
    return seen;
  }

  /** Calls of methods that call one another count as one. */
  private static int depth(Map<String, Set<String>> calls, Map<String, Set<String>> reach, Map<String, Integer> known, String from) {
    Integer is = known.get(from);
    if (is != null) return is;
    int deepest = 0;
    Set<String> round = new TreeSet<>(Set.of(from));
    for (String m : reach.get(from)) if (reach.getOrDefault(m, Set.of()).contains(from)) round.add(m);
    for (String m : round) {
      for (String to : calls.getOrDefault(m, Set.of())) if (!round.contains(to)) deepest = Math.max(deepest, depth(calls, reach, known, to));
    }
    known.put(from, deepest + 1);
    return deepest + 1;
  }

  private static void depths(Look look) {
    Map<String, Set<String>> reach = new TreeMap<>();
    for (String m : look.calls.keySet()) reach.put(m, reached(look.calls, m));
    for (String m : look.calls.keySet()) {
      if (reach.get(m).contains(m) && !look.isPrivate.getOrDefault(m, false)) broken(8, m + " calls itself and is not private");
      if (look.calls.get(m).contains(m)) broken(8, m + " calls itself");
      int depth = depth(look.calls, reach, new HashMap<>(), m);
      if (depth > CALLS) broken(11, m + " goes " + depth + " calls deep");
    }
  }

  public static void main(String[] args) throws Exception {
    face();
    String text = Files.readString(SOURCE);
    if (text.chars().anyMatch(ch -> ch > 127)) broken(4, "a sign above 127 in the source");
    var compiler = ToolProvider.getSystemJavaCompiler();
    var files = compiler.getStandardFileManager(null, null, null);
    JavacTask task = (JavacTask) compiler.getTask(null, files, null, List.of("-proc:none"), null, files.getJavaFileObjects(SOURCE));
    CompilationUnitTree unit = task.parse().iterator().next();
    task.analyze();
    Look look = new Look(Trees.instance(task), unit);
    look.scan(unit, null);
    depths(look);
    System.out.println(wrong == 0 ? "the rules are kept" : wrong + " rules are broken");
    if (wrong != 0) System.exit(1);
  }
}
