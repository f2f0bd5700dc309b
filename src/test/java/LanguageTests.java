import com.sun.source.tree.BinaryTree;
import com.sun.source.tree.ClassTree;
import com.sun.source.tree.CompilationUnitTree;
import com.sun.source.tree.ImportTree;
import com.sun.source.tree.MethodInvocationTree;
import com.sun.source.tree.MethodTree;
import com.sun.source.tree.NewArrayTree;
import com.sun.source.tree.NewClassTree;
import com.sun.source.tree.Tree;
import com.sun.source.tree.VariableTree;
import com.sun.source.util.JavacTask;
import com.sun.source.util.TreePath;
import com.sun.source.util.TreePathScanner;
import com.sun.source.util.Trees;
import java.io.IOException;
import java.nio.charset.StandardCharsets;
import java.nio.file.Files;
import java.nio.file.Paths;
import java.util.EnumSet;
import java.util.HashSet;
import java.util.List;
import java.util.Map;
import java.util.Set;
import java.util.TreeMap;
import java.util.TreeSet;
import javax.lang.model.element.Element;
import javax.lang.model.element.ElementKind;
import javax.lang.model.element.Modifier;
import javax.tools.StandardJavaFileManager;
import javax.tools.ToolProvider;

/** Rules of LANGUAGE.md, looked for in the program as the compiler reads it; each check begins with the rule's number. */
final class LanguageTests extends TreePathScanner<Void, Void> {
    private static final int MOST_PARAMETERS = 7, MOST_LINES = 60, MOST_DEEP = 8, MOST_CLASSES = 12, MOST_FIELDS = 20;
    private static final int LAST_SIGN = 126;
    private static final Set<Tree.Kind> FORBIDDEN = EnumSet.of(Tree.Kind.THROW, Tree.Kind.TRY, Tree.Kind.CATCH,
        Tree.Kind.SYNCHRONIZED, Tree.Kind.ASSERT, Tree.Kind.LAMBDA_EXPRESSION, Tree.Kind.MEMBER_REFERENCE);
    private static final String LIBRARY = "java\\.lang\\.(Math|Integer|Long)\\.(?!\\w*Exact\\b)\\w+"
        + "|java\\.lang\\.System\\.arraycopy|java\\.util\\.Arrays\\.(copyOf|copyOfRange|fill)"
        + "|java\\.lang\\.String\\.(length|charAt|isEmpty|equals|indexOf|substring|toCharArray)"
        + "|java\\.lang\\.Object\\.<init>";
    private static final String TYPES = "(int|long|short|byte|char|boolean)(\\[\\]){0,2}|WhistleFlock(\\.\\w+)?(\\[\\])?"
        + "|java\\.lang\\.String";
    private static final String STATIC_TYPES = "int|long|boolean|char|java\\.lang\\.String|(int|long|char|byte)\\[\\]";

    private final CompilationUnitTree unit;
    private final Trees trees;
    private final Map<String, Set<String>> callsOf = new TreeMap<>();
    private String within = "the fields' beginnings";
    private boolean isConstructing = true;
    private int classes;

    private LanguageTests(CompilationUnitTree unit, Trees trees) {
        this.unit = unit;
        this.trees = trees;
    }

    static void run(String place) throws IOException {
        onlyPlainSigns(new String(Files.readAllBytes(Paths.get(place)), StandardCharsets.ISO_8859_1));
        try (StandardJavaFileManager files = ToolProvider.getSystemJavaCompiler()
                .getStandardFileManager(null, null, null)) {
            JavacTask task = (JavacTask) ToolProvider.getSystemJavaCompiler().getTask(null, files, null,
                List.of("--release", "17", "-proc:none"), null, files.getJavaFileObjects(place));
            CompilationUnitTree unit = task.parse().iterator().next();
            task.analyze();
            LanguageTests rules = new LanguageTests(unit, Trees.instance(task));
            rules.scan(unit, null);
            rules.callsAreFewDeep();
        }
    }

    private static void onlyPlainSigns(String text) {
        boolean arePlain = text.chars().allMatch(sign -> sign == '\n' || sign >= ' ' && sign <= LAST_SIGN);
        Checks.holds("rule 4: only plain signs in the program", arePlain);
    }

    private void callsAreFewDeep() {
        Checks.holds("rule 11: some twelve classes at most, not " + classes, classes <= MOST_CLASSES);
        for (String one : callsOf.keySet()) {
            int deep = deep(one, new HashSet<>());
            Checks.holds("rule 11: at most " + MOST_DEEP + " deep, not " + deep + ", from " + one, deep <= MOST_DEEP);
        }
    }

    private int deep(String one, Set<String> open) {
        if (!open.add(one)) {
            Checks.holds("rule 8: no recursion, as of " + one, false);
            return MOST_DEEP;
        }
        int deepest = 0;
        for (String called : callsOf.getOrDefault(one, Set.of())) {
            deepest = Math.max(deepest, deep(called, open));
        }
        open.remove(one);
        return deepest + 1;
    }

    private String at(Tree tree) {
        long start = trees.getSourcePositions().getStartPosition(unit, tree);
        return "line " + unit.getLineMap().getLineNumber(start);
    }

    private Element here() {
        return trees.getElement(getCurrentPath());
    }

    private String typeOf(Tree tree) {
        return String.valueOf(trees.getTypeMirror(new TreePath(getCurrentPath(), tree)));
    }

    private static boolean isOwn(Element member) {
        return member.getEnclosingElement().toString().startsWith("WhistleFlock");
    }

    private void calls(Element called, String rule, Tree tree) {
        if (isOwn(called)) {
            callsOf.computeIfAbsent(within, none -> new TreeSet<>()).add(nameOf(called));
        } else {
            String name = called.getEnclosingElement() + "." + called.getSimpleName();
            Checks.holds(rule + name + " in the library, " + at(tree), name.matches(LIBRARY));
        }
    }

    private static String nameOf(Element method) {
        return method.getEnclosingElement() + "." + method;
    }

    @Override
    public Void scan(Tree tree, Void none) {
        if (tree != null && FORBIDDEN.contains(tree.getKind())) {
            Checks.holds("rules 2, 6: no " + tree.getKind() + ", " + at(tree), false);
        }
        return super.scan(tree, none);
    }

    @Override
    public Void visitImport(ImportTree tree, Void none) {
        String name = tree.getQualifiedIdentifier().toString();
        Checks.holds("rule 4: import of " + name, name.matches("java\\.util\\.(Arrays|ArrayList|List|Iterator)"));
        return super.visitImport(tree, none);
    }

    @Override
    public Void visitClass(ClassTree tree, Void none) {
        classes++;
        Element one = here();
        boolean isInside = one.getEnclosingElement().getKind() != ElementKind.PACKAGE;
        Set<Modifier> form = one.getModifiers();
        Checks.holds("rules 1, 2: " + one + " is static and not seen from outside", !isInside
            || form.contains(Modifier.STATIC) && !form.contains(Modifier.PUBLIC) && !form.contains(Modifier.PROTECTED));
        long fields = one.getEnclosedElements().stream()
            .filter(field -> field.getKind() == ElementKind.FIELD && !field.getModifiers().contains(Modifier.STATIC))
            .count();
        Checks.holds("rule 11: some twenty fields at most in " + one + ", not " + fields, fields <= MOST_FIELDS);
        return super.visitClass(tree, none);
    }

    @Override
    public Void visitMethod(MethodTree tree, Void none) {
        long start = unit.getLineMap().getLineNumber(trees.getSourcePositions().getStartPosition(unit, tree));
        long end = unit.getLineMap().getLineNumber(trees.getSourcePositions().getEndPosition(unit, tree));
        Checks.holds("rule 11: " + tree.getName() + " is short, " + at(tree), end - start < MOST_LINES);
        Checks.holds("rule 11: seven parameters of " + tree.getName() + " at most, " + at(tree),
            tree.getParameters().size() <= MOST_PARAMETERS);
        String outside = within;
        within = nameOf(here());
        isConstructing = here().getKind() == ElementKind.CONSTRUCTOR;
        super.visitMethod(tree, none);
        within = outside;
        isConstructing = true;
        return null;
    }

    @Override
    public Void visitVariable(VariableTree tree, Void none) {
        Element one = here();
        String type = one.asType().toString();
        Checks.holds("rule 3: " + tree + ", " + at(tree), type.matches(TYPES));
        if (one.getModifiers().contains(Modifier.STATIC)) {
            boolean isConstant = one.getModifiers().contains(Modifier.FINAL) && type.matches(STATIC_TYPES);
            Checks.holds("rule 5: " + tree + ", " + at(tree), isConstant);
        }
        return super.visitVariable(tree, none);
    }

    @Override
    public Void visitMethodInvocation(MethodInvocationTree tree, Void none) {
        calls(here(), "rule 4: ", tree);
        return super.visitMethodInvocation(tree, none);
    }

    @Override
    public Void visitNewClass(NewClassTree tree, Void none) {
        Checks.holds("rule 2: no class without a name, " + at(tree), tree.getClassBody() == null);
        Checks.holds("rule 12: no call makes an object, " + at(tree), isConstructing);
        calls(here(), "rule 4: new ", tree);
        return super.visitNewClass(tree, none);
    }

    @Override
    public Void visitNewArray(NewArrayTree tree, Void none) {
        Checks.holds("rule 12: no call makes a row, " + at(tree), isConstructing);
        return super.visitNewArray(tree, none);
    }

    @Override
    public Void visitBinary(BinaryTree tree, Void none) {
        boolean areTexts = typeOf(tree.getLeftOperand()).equals("java.lang.String")
            || typeOf(tree.getRightOperand()).equals("java.lang.String");
        Checks.holds("rules 6, 10: no == or + of texts, " + at(tree), !areTexts);
        return super.visitBinary(tree, none);
    }
}
