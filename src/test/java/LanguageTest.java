import com.sun.source.tree.AnnotationTree;
import com.sun.source.tree.AssertTree;
import com.sun.source.tree.BinaryTree;
import com.sun.source.tree.BlockTree;
import com.sun.source.tree.ClassTree;
import com.sun.source.tree.CompilationUnitTree;
import com.sun.source.tree.CompoundAssignmentTree;
import com.sun.source.tree.ForLoopTree;
import com.sun.source.tree.ImportTree;
import com.sun.source.tree.LambdaExpressionTree;
import com.sun.source.tree.MemberReferenceTree;
import com.sun.source.tree.MethodInvocationTree;
import com.sun.source.tree.MethodTree;
import com.sun.source.tree.NewArrayTree;
import com.sun.source.tree.NewClassTree;
import com.sun.source.tree.SynchronizedTree;
import com.sun.source.tree.ThrowTree;
import com.sun.source.tree.Tree;
import com.sun.source.tree.TryTree;
import com.sun.source.tree.VariableTree;
import com.sun.source.tree.WhileLoopTree;
import com.sun.source.util.JavacTask;
import com.sun.source.util.TreePath;
import com.sun.source.util.TreePathScanner;
import com.sun.source.util.Trees;
import java.io.File;
import java.io.IOException;
import java.util.ArrayList;
import java.util.List;
import java.util.Map;
import java.util.Set;
import java.util.TreeMap;
import java.util.TreeSet;
import javax.lang.model.element.Element;
import javax.lang.model.element.ElementKind;
import javax.lang.model.element.ExecutableElement;
import javax.lang.model.element.Modifier;
import javax.lang.model.type.TypeMirror;
import javax.tools.JavaCompiler;
import javax.tools.StandardJavaFileManager;
import javax.tools.ToolProvider;

/** Holds the class against LANGUAGE.md, by the compiler's own tree of it; each finding bears the rule's number. */
public final class LanguageTest {
    private static final File SOURCE = new File("src/main/java/SewsUpTheAfternoon.java");
    private static final Set<String> FACE = Set.of("SewsUpTheAfternoon()", "set(int,int,int)", "seam(int,int,int)",
        "told(int,int)", "feed(int)", "text()", "force(int)", "hours(int)", "pass()", "run(int,int)", "cut(int,int,int)",
        "unpick(int)", "thread(int,int,int)", "move(int,int)", "tells(int,int)", "film(int,int)", "drawn(int)",
        "long chance(int,int,int)", "image()", "back()", "count(int)", "sheet(int,int,int)", "cell(int,int,int)",
        "copy(int,int,int,int,int)", "seams(int,int,int,int)", "taken(int,int)",
        "int NONE", "int BAD", "int STATE", "int FULL", "long NO");
    private static final Map<String, Set<String>> LIBRARY = Map.of(
        "java.lang.String", Set.of("length", "charAt", "isEmpty", "equals", "indexOf", "substring", "toCharArray"),
        "java.lang.StringBuilder", Set.of("append", "charAt", "setCharAt", "setLength", "deleteCharAt", "reverse", "length",
            "toString"),
        "java.lang.Math", Set.of("max", "min", "abs", "floorDiv", "floorMod"),
        "java.lang.Integer", Set.of("compare", "max", "min", "bitCount"),
        "java.lang.Long", Set.of("compare", "max", "min", "bitCount"),
        "java.lang.System", Set.of("arraycopy"),
        "java.util.Arrays", Set.of("copyOf", "copyOfRange", "fill"));
    private static final int MOST_PARAMETERS = 7, MOST_LINES = 60, MOST_CLASSES = 12, MOST_FIELDS = 20, MOST_DEEP = 8;

    private static int wrong = 0;

    public static void main(String[] args) throws IOException {
        JavaCompiler compiler = ToolProvider.getSystemJavaCompiler();
        try (StandardJavaFileManager files = compiler.getStandardFileManager(null, null, null)) {
            JavacTask task = (JavacTask) compiler.getTask(null, files, null, List.of("--release", "17", "-proc:none"), null,
                files.getJavaFileObjects(SOURCE));
            CompilationUnitTree unit = task.parse().iterator().next();
            task.analyze();
            Look look = new Look(unit, Trees.instance(task));
            look.scan(unit, null);
            look.wholeFile();
        }
        System.out.println(wrong == 0 ? "no rule of the language is seen broken" : wrong + " places");
        if (wrong != 0) {
            System.exit(1);
        }
    }

    static final class Look extends TreePathScanner<Void, Void> {
        private final CompilationUnitTree unit;
        private final Trees trees;
        private final Set<String> face = new TreeSet<>();
        private final Set<String> ofTheFace = new TreeSet<>();
        private final Map<String, Set<String>> calls = new TreeMap<>();
        private int classes = 0;
        private Element method = null;

        Look(CompilationUnitTree unit, Trees trees) {
            this.unit = unit;
            this.trees = trees;
            for (String f : FACE) {
                if (f.contains("(")) {
                    ofTheFace.add(f.substring(f.lastIndexOf(' ') + 1, f.indexOf('(')));
                }
            }
        }

        private long line(Tree tree) {
            return unit.getLineMap().getLineNumber(trees.getSourcePositions().getStartPosition(unit, tree));
        }

        private void must(boolean so, Tree at, String rule) {
            if (!so) {
                wrong++;
                System.out.println("line " + line(at) + ": rule " + rule);
            }
        }

        private Element element() {
            return trees.getElement(getCurrentPath());
        }

        private TypeMirror type(Tree tree) {
            return trees.getTypeMirror(new TreePath(getCurrentPath(), tree));
        }

        private boolean isOwn(Element e) {
            Element at = e;
            while (at.getEnclosingElement() != null && at.getEnclosingElement().getKind() != ElementKind.PACKAGE) {
                at = at.getEnclosingElement();
            }
            return at.getSimpleName().contentEquals("SewsUpTheAfternoon");
        }

        @Override
        public Void visitImport(ImportTree tree, Void none) {
            must(Set.of("java.util.Arrays", "java.util.ArrayList", "java.util.List").contains(
                tree.getQualifiedIdentifier().toString()), tree, "4, an import");
            return null;
        }

        @Override
        public Void visitAnnotation(AnnotationTree tree, Void none) {
            must(tree.getAnnotationType().toString().equals("Override"), tree, "4, an annotation");
            return null;
        }

        @Override
        public Void visitClass(ClassTree tree, Void none) {
            Element e = element();
            boolean outer = e.getEnclosingElement().getKind() == ElementKind.PACKAGE;
            Set<Modifier> m = e.getModifiers();
            classes++;
            if (outer) {
                must(m.contains(Modifier.PUBLIC) && m.contains(Modifier.FINAL), tree, "1, the class");
            } else {
                must(!m.contains(Modifier.PUBLIC) && !m.contains(Modifier.PROTECTED), tree, "1, a class inside");
                must(m.contains(Modifier.STATIC), tree, "2, an inner class that isn't static");
                must(e.getEnclosingElement().getKind() != ElementKind.METHOD, tree, "2, a local class");
            }
            must(!e.getSimpleName().toString().isEmpty(), tree, "2, an anonymous class");
            int fields = 0;
            for (Tree member : tree.getMembers()) {
                if (member instanceof VariableTree) {
                    fields += trees.getElement(new TreePath(getCurrentPath(), member)).getModifiers().contains(Modifier.STATIC) ? 0 : 1;
                }
                must(!(member instanceof BlockTree), member, "5, a block that initialises");
            }
            must(fields <= MOST_FIELDS, tree, "11, fields");
            return super.visitClass(tree, none);
        }

        @Override
        public Void visitVariable(VariableTree tree, Void none) {
            Element e = element();
            TypeMirror t = e.asType();
            must(isType(t.toString()), tree, "3, a type: " + t);
            if (e.getKind() == ElementKind.FIELD) {
                Set<Modifier> m = e.getModifiers();
                boolean ofFace = m.contains(Modifier.PUBLIC) && m.contains(Modifier.STATIC) && m.contains(Modifier.FINAL);
                if (ofFace) {
                    face.add(t + " " + e.getSimpleName());
                }
                must(ofFace || m.contains(Modifier.PRIVATE), tree, "1, a field that is not private");
                if (m.contains(Modifier.STATIC)) {
                    must(m.contains(Modifier.FINAL), tree, "5, a static field that is not final");
                    boolean array = t.toString().matches("(int|long|char|byte)\\[\\]") && tree.getInitializer() instanceof NewArrayTree;
                    must(array || t.toString().matches("int|long|boolean|char|java\\.lang\\.String"), tree, "5, a static field");
                }
            }
            return super.visitVariable(tree, none);
        }

        private static boolean isType(String t) {
            String number = "(int|long|short|byte|char|boolean|double|float)";
            String own = "SewsUpTheAfternoon\\.\\w+";
            return t.matches(number + "(\\[\\]){0,2}") || t.matches(own + "(\\[\\])?")
                || t.matches("java\\.lang\\.(String|StringBuilder|Integer)")
                || t.matches("java\\.util\\.(ArrayList|List)<(java\\.lang\\.Integer|" + own + ")>");
        }

        @Override
        public Void visitMethod(MethodTree tree, Void none) {
            ExecutableElement e = (ExecutableElement) element();
            if (trees.getSourcePositions().getEndPosition(unit, tree) < 0) {
                return null;
            }
            boolean outer = e.getEnclosingElement().getEnclosingElement().getKind() == ElementKind.PACKAGE;
            Set<Modifier> m = e.getModifiers();
            String name = e.getSimpleName().toString();
            if (m.contains(Modifier.PUBLIC)) {
                must(outer, tree, "1, a public method of a class inside");
                String result = e.getReturnType().toString().equals("long") ? "long " : "";
                String signed = e.toString().replace(" ", "");
                face.add(result + (name.equals("<init>") ? "SewsUpTheAfternoon()" : signed));
            } else {
                must(m.contains(Modifier.PRIVATE), tree, "1, a method that is not private");
                must(!ofTheFace.contains(name), tree, "1, a private method with a public one's name");
            }
            must(!Set.of("equals", "hashCode", "toString", "finalize").contains(name), tree, "6, " + name);
            must(tree.getParameters().size() <= MOST_PARAMETERS, tree, "11, parameters");
            must(e.getThrownTypes().isEmpty(), tree, "6, throws");
            long end = unit.getLineMap().getLineNumber(trees.getSourcePositions().getEndPosition(unit, tree));
            must(end - line(tree) < MOST_LINES, tree, "11, lines");
            Element before = method;
            method = e;
            calls.computeIfAbsent(named(e), n -> new TreeSet<>());
            super.visitMethod(tree, none);
            method = before;
            return null;
        }

        private static String named(Element e) {
            return e.getEnclosingElement().getSimpleName() + "." + e;
        }

        @Override
        public Void visitMethodInvocation(MethodInvocationTree tree, Void none) {
            Element e = element();
            if (e == null || e.getSimpleName().contentEquals("<init>")) {
                return super.visitMethodInvocation(tree, none);
            }
            if (isOwn(e)) {
                calls.computeIfAbsent(named(method), n -> new TreeSet<>()).add(named(e));
            } else {
                String of = e.getEnclosingElement().toString();
                boolean may = LIBRARY.getOrDefault(of, Set.of()).contains(e.getSimpleName().toString())
                    || of.equals("Array") && e.getSimpleName().contentEquals("clone");
                must(may, tree, "4, " + of + "." + e);
            }
            return super.visitMethodInvocation(tree, none);
        }

        @Override
        public Void visitNewClass(NewClassTree tree, Void none) {
            must(tree.getClassBody() == null, tree, "2, an anonymous class");
            must(isMadeOnce(), tree, "12, an object made outside of constructors");
            return super.visitNewClass(tree, none);
        }

        @Override
        public Void visitNewArray(NewArrayTree tree, Void none) {
            must(isMadeOnce(), tree, "12, an array made outside of constructors");
            return super.visitNewArray(tree, none);
        }

        /** The room for all calls is small: what there is, is made with the object itself. */
        private boolean isMadeOnce() {
            return method == null || method.getKind() == ElementKind.CONSTRUCTOR;
        }

        @Override
        public Void visitBinary(BinaryTree tree, Void none) {
            String left = type(tree.getLeftOperand()).toString();
            String right = type(tree.getRightOperand()).toString();
            boolean text = left.equals("java.lang.String") || right.equals("java.lang.String");
            must(tree.getKind() != Tree.Kind.PLUS || !text, tree, "10, texts joined by +");
            boolean same = tree.getKind() == Tree.Kind.EQUAL_TO || tree.getKind() == Tree.Kind.NOT_EQUAL_TO;
            must(!same || !text && !left.endsWith("Integer") && !right.endsWith("Integer"), tree, "6, == of texts");
            if (tree.getKind() == Tree.Kind.DIVIDE || tree.getKind() == Tree.Kind.REMAINDER) {
                must(isSafeDivisor(tree.getRightOperand()), tree, "7, a divisor that may be 0");
            }
            return super.visitBinary(tree, none);
        }

        /** A number that stands there, or d, which counts down to 2 in chance(). */
        private static boolean isSafeDivisor(Tree divisor) {
            return divisor.toString().matches("[1-9][0-9]*|d");
        }

        @Override
        public Void visitCompoundAssignment(CompoundAssignmentTree tree, Void none) {
            must(!type(tree.getVariable()).toString().equals("java.lang.String"), tree, "10, texts joined by +=");
            boolean divides = tree.getKind() == Tree.Kind.DIVIDE_ASSIGNMENT || tree.getKind() == Tree.Kind.REMAINDER_ASSIGNMENT;
            must(!divides || isSafeDivisor(tree.getExpression()), tree, "7, a divisor that may be 0");
            return super.visitCompoundAssignment(tree, none);
        }

        @Override
        public Void visitForLoop(ForLoopTree tree, Void none) {
            must(tree.getCondition() != null && tree.getCondition().toString().matches("\\w+ [<>]=? .*")
                && tree.getUpdate().size() == 1, tree, "9, a loop without a counter's bound");
            return super.visitForLoop(tree, none);
        }

        @Override
        public Void visitWhileLoop(WhileLoopTree tree, Void none) {
            must(tree.getCondition().toString().matches("\\(\\w+ < \\w+ && .*"), tree, "9, a loop without a counter's bound");
            return super.visitWhileLoop(tree, none);
        }

        @Override
        public Void visitLambdaExpression(LambdaExpressionTree tree, Void none) {
            must(false, tree, "2, a lambda");
            return null;
        }

        @Override
        public Void visitMemberReference(MemberReferenceTree tree, Void none) {
            must(false, tree, "2, a method reference");
            return null;
        }

        @Override
        public Void visitThrow(ThrowTree tree, Void none) {
            must(false, tree, "6, throw");
            return null;
        }

        @Override
        public Void visitTry(TryTree tree, Void none) {
            must(false, tree, "6, try");
            return null;
        }

        @Override
        public Void visitSynchronized(SynchronizedTree tree, Void none) {
            must(false, tree, "6, synchronized");
            return null;
        }

        @Override
        public Void visitAssert(AssertTree tree, Void none) {
            must(false, tree, "6, assert");
            return null;
        }

        void wholeFile() {
            must(unit.getPackage() == null, unit, "1, a package");
            must(unit.getTypeDecls().size() == 1, unit, "1, more than one class");
            must(face.equals(new TreeSet<>(FACE)), unit, "1, the face is " + face);
            must(classes <= MOST_CLASSES, unit, "11, classes");
            for (String m : calls.keySet()) {
                int deep = deepest(m, new ArrayList<>());
                must(deep <= MOST_DEEP, unit, "11, " + m + " goes " + deep + " deep");
                must(!reaches(m, m, new TreeSet<>()) || m.endsWith("int)"), unit, "8, " + m + " without a depth");
            }
        }

        /** How deep a call goes; calls that call one another round about are no part of it (rule 8 has these). */
        private int deepest(String m, List<String> open) {
            int most = 0;
            open.add(m);
            for (String next : calls.getOrDefault(m, Set.of())) {
                if (!open.contains(next)) {
                    most = Math.max(most, deepest(next, open));
                }
            }
            open.remove(m);
            return most + (reaches(m, m, new TreeSet<>()) ? 0 : 1);
        }

        private boolean reaches(String from, String to, Set<String> seen) {
            for (String next : calls.getOrDefault(from, Set.of())) {
                if (next.equals(to) || seen.add(next) && reaches(next, to, seen)) {
                    return true;
                }
            }
            return false;
        }
    }
}
