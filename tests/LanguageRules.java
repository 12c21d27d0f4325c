import com.sun.source.tree.*;
import com.sun.source.util.*;
import java.nio.file.Files;
import java.nio.file.Path;
import java.util.*;
import javax.lang.model.element.*;
import javax.lang.model.type.TypeKind;
import javax.lang.model.type.TypeMirror;
import javax.tools.*;

/** Reads src/main/java/FolioStair.java as javac does and holds it against LANGUAGE.md, as far as a program can. Argument: the file. */
public final class LanguageRules {
    private static final Set<String> FACE = Set.of("tread", "put", "of", "reader", "turn", "terms", "feed", "end", "row", "torn",
        "law", "fault", "force", "carries", "comes", "way", "free", "cut", "boards", "ask", "drop", "day", "stands", "best", "built",
        "build", "swap", "tracks", "sorted", "toe", "lift", "places", "days", "drawn", "image", "back", "count", "status");
    private static final Set<String> LIBRARY = Set.of("String.length", "String.charAt", "String.isEmpty", "String.equals",
        "String.indexOf", "String.substring", "String.toCharArray", "String.<init>", "StringBuilder.<init>", "StringBuilder.append",
        "StringBuilder.charAt", "StringBuilder.setCharAt", "StringBuilder.setLength", "StringBuilder.deleteCharAt",
        "StringBuilder.reverse", "StringBuilder.length", "StringBuilder.toString", "System.arraycopy", "Arrays.copyOf",
        "Arrays.copyOfRange", "Arrays.fill", "Object.<init>", "Record.<init>", "Enum.<init>", "List.of");
    private static final Set<String> LISTS = Set.of("<init>", "add", "get", "set", "remove", "size", "isEmpty", "clear");
    private static final Set<String> TYPES = Set.of("java.lang.String", "java.lang.StringBuilder", "java.lang.Integer",
        "java.util.ArrayList", "java.util.List", "java.util.Iterator");
    private static final Set<Tree.Kind> OUTSIDE = EnumSet.of(Tree.Kind.THROW, Tree.Kind.TRY, Tree.Kind.CATCH, Tree.Kind.SYNCHRONIZED,
        Tree.Kind.ASSERT, Tree.Kind.LAMBDA_EXPRESSION, Tree.Kind.MEMBER_REFERENCE);

    private static final List<String> faults = new ArrayList<>();
    private static final Map<Element, Set<Element>> calls = new LinkedHashMap<>();

    public static void main(String[] args) throws Exception {
        Path file = Path.of(args[0]);
        JavaCompiler javac = ToolProvider.getSystemJavaCompiler();
        StandardJavaFileManager files = javac.getStandardFileManager(null, null, null);
        JavacTask task = (JavacTask) javac.getTask(null, files, null, List.of("-proc:none"), null, files.getJavaFileObjects(file));
        CompilationUnitTree unit = task.parse().iterator().next();
        task.analyze();
        new Scan(Trees.instance(task), unit).scan(unit, null);
        int deepest = 0;
        for (Element method : calls.keySet()) {
            if (method.getModifiers().contains(Modifier.PUBLIC)) deepest = Math.max(deepest, depth(method, new HashSet<>()));
        }
        hold(deepest <= 8, "11: calls that are no recursion go " + deepest + " deep");
        for (char sign : Files.readString(file).toCharArray()) hold(sign == '\n' || sign >= 32 && sign < 127, "4: a sign that is " + (int) sign);
        for (String fault : new LinkedHashSet<>(faults)) System.out.println("rule " + fault);
        System.out.println((faults.isEmpty() ? 1 : 0) + " passed, " + (faults.isEmpty() ? 0 : 1) + " failed");
        if (!faults.isEmpty()) System.exit(1);
    }

    private static void hold(boolean so, String rule) { if (!so) faults.add(rule); }

    private static boolean reaches(Element from, Element to, Set<Element> seen) {
        for (Element next : calls.getOrDefault(from, Set.of())) {
            if (next.equals(to) || seen.add(next) && reaches(next, to, seen)) return true;
        }
        return false;
    }

    private static boolean together(Element a, Element b) {
        return a.equals(b) || reaches(a, b, new HashSet<>()) && reaches(b, a, new HashSet<>());
    }

    /** How deep calls go, where methods that call one another round count as one. */
    private static int depth(Element method, Set<Element> round) {
        round.add(method);
        int deepest = 0;
        for (Element next : calls.getOrDefault(method, Set.of())) {
            if (!round.contains(next)) {
                boolean same = together(method, next);
                deepest = Math.max(deepest, same ? depth(next, round) - 1 : depth(next, new HashSet<>()));
            }
        }
        return deepest + 1;
    }

    private static final class Scan extends TreePathScanner<Void, Void> {
        private final Trees trees;
        private final CompilationUnitTree unit;
        private int classes = 0;

        Scan(Trees trees, CompilationUnitTree unit) {
            this.trees = trees;
            this.unit = unit;
        }

        private Element here() { return trees.getElement(getCurrentPath()); }

        @Override public Void scan(Tree tree, Void v) {
            if (tree != null) hold(!OUTSIDE.contains(tree.getKind()), "2 or 6: " + tree.getKind() + " at line " + line(tree, true));
            return super.scan(tree, v);
        }

        private long line(Tree tree, boolean start) {
            SourcePositions at = trees.getSourcePositions();
            return unit.getLineMap().getLineNumber(Math.max(0, start ? at.getStartPosition(unit, tree) : at.getEndPosition(unit, tree)));
        }

        @Override public Void visitClass(ClassTree tree, Void v) {
            Set<Modifier> how = tree.getModifiers().getFlags();
            boolean outer = classes == 0;
            classes++;
            hold(classes <= 12, "11: more than twelve classes");
            // Enums, records and interfaces are static without the word.
            boolean still = tree.getKind() != Tree.Kind.CLASS || how.contains(Modifier.STATIC);
            hold(outer ? how.contains(Modifier.PUBLIC) && how.contains(Modifier.FINAL)
                    : still && !how.contains(Modifier.PUBLIC) && !how.contains(Modifier.PROTECTED), "1 or 2: class " + tree.getSimpleName());
            int fields = 0;
            for (Tree member : tree.getMembers()) {
                if (member instanceof VariableTree field) {
                    Set<Modifier> so = field.getModifiers().getFlags();
                    boolean constant = tree.getKind() == Tree.Kind.ENUM && tree.getSimpleName().contentEquals(field.getType().toString());
                    if (!so.contains(Modifier.STATIC)) fields++;
                    else hold(constant || so.contains(Modifier.FINAL) && Set.of("int", "long", "boolean", "char", "String", "int[]", "long[]", "char[]",
                            "byte[]").contains(field.getType().toString()), "5: " + field.getName());
                    hold(!outer || so.contains(Modifier.PRIVATE) || field.getName().contentEquals("NONE"), "1: " + field.getName());
                }
                if (member instanceof MethodTree method && outer) {
                    boolean face = FACE.contains(method.getName().toString()) || method.getName().contentEquals("<init>");
                    hold(face == method.getModifiers().getFlags().contains(Modifier.PUBLIC), "1: method " + method.getName());
                }
            }
            hold(fields <= 20, "11: fields of " + tree.getSimpleName());
            return super.visitClass(tree, v);
        }

        @Override public Void visitMethod(MethodTree tree, Void v) {
            String name = tree.getName().toString();
            Set<Modifier> how = tree.getModifiers().getFlags();
            hold(how.contains(Modifier.PUBLIC) || !FACE.contains(name), "1: a method bears the name of a public one: " + name);
            hold(tree.getParameters().size() <= 7, "11: parameters of " + name);
            hold(line(tree, false) - line(tree, true) < 60, "11: length of " + name);
            calls.computeIfAbsent(here(), k -> new LinkedHashSet<>());
            return super.visitMethod(tree, v);
        }

        @Override public Void visitMethodInvocation(MethodInvocationTree tree, Void v) {
            note((ExecutableElement) here());
            return super.visitMethodInvocation(tree, v);
        }

        @Override public Void visitNewClass(NewClassTree tree, Void v) {
            hold(tree.getClassBody() == null, "2: an anonymous class");
            note((ExecutableElement) here());
            return super.visitNewClass(tree, v);
        }

        private void note(ExecutableElement called) {
            TypeElement of = (TypeElement) called.getEnclosingElement();
            if (of.getQualifiedName().toString().startsWith("java.")) {
                hold(isListed(of.getSimpleName().toString(), called), "4: " + of + "." + called);
                return;
            }
            for (TreePath path = getCurrentPath(); path != null; path = path.getParentPath()) {
                if (path.getLeaf() instanceof MethodTree) {
                    calls.computeIfAbsent(trees.getElement(path), k -> new LinkedHashSet<>()).add(called);
                    return;
                }
            }
        }

        private boolean isListed(String of, ExecutableElement called) {
            String name = called.getSimpleName().toString();
            if (of.equals("Integer") || of.equals("Long") || of.equals("Math")) {
                boolean whole = called.getModifiers().contains(Modifier.STATIC) && !name.endsWith("Exact");
                for (VariableElement part : called.getParameters()) {
                    whole &= part.asType().getKind() == TypeKind.INT || part.asType().getKind() == TypeKind.LONG;
                }
                return whole;
            }
            if (of.equals("ArrayList") || of.equals("List")) return LISTS.contains(name) || name.equals("of");
            return LIBRARY.contains(of + "." + name);
        }

        @Override public Void visitVariable(VariableTree tree, Void v) {
            TypeMirror type = here().asType();
            int dimensions = 0;
            for (; type.getKind() == TypeKind.ARRAY; dimensions++) type = ((javax.lang.model.type.ArrayType) type).getComponentType();
            hold(dimensions <= (type.getKind().isPrimitive() ? 2 : 1), "3: " + tree.getName());
            String bare = type.toString().replaceFirst("<.*", "");
            hold(type.getKind().isPrimitive() || type.getKind() == TypeKind.TYPEVAR || TYPES.contains(bare) || bare.startsWith("FolioStair."),
                    "3: " + tree.getName() + " is a " + type);
            return super.visitVariable(tree, v);
        }

        @Override public Void visitBinary(BinaryTree tree, Void v) {
            boolean text = trees.getTypeMirror(getCurrentPath()).toString().equals("java.lang.String");
            hold(!text, "10: a text joined by + at line " + line(tree, true));
            return super.visitBinary(tree, v);
        }
    }
}
