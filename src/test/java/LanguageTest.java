import com.sun.source.tree.AssertTree;
import com.sun.source.tree.BinaryTree;
import com.sun.source.tree.ClassTree;
import com.sun.source.tree.CompilationUnitTree;
import com.sun.source.tree.LambdaExpressionTree;
import com.sun.source.tree.LiteralTree;
import com.sun.source.tree.MemberReferenceTree;
import com.sun.source.tree.MethodInvocationTree;
import com.sun.source.tree.MethodTree;
import com.sun.source.tree.NewArrayTree;
import com.sun.source.tree.NewClassTree;
import com.sun.source.tree.SynchronizedTree;
import com.sun.source.tree.ThrowTree;
import com.sun.source.tree.Tree;
import com.sun.source.tree.TryTree;
import com.sun.source.tree.VariableTree;
import com.sun.source.util.JavacTask;
import com.sun.source.util.TreePathScanner;
import com.sun.source.util.Trees;
import java.io.File;
import java.io.IOException;
import java.lang.reflect.Constructor;
import java.lang.reflect.Field;
import java.lang.reflect.Method;
import java.lang.reflect.Modifier;
import java.util.HashMap;
import java.util.HashSet;
import java.util.List;
import java.util.Map;
import java.util.Set;
import java.util.TreeSet;
import javax.lang.model.element.Element;
import javax.lang.model.element.ElementKind;
import javax.tools.JavaCompiler;
import javax.tools.StandardJavaFileManager;
import javax.tools.ToolProvider;

/** The rules of LANGUAGE.md that a machine can look at, and the face of the document. */
public final class LanguageTest extends TreePathScanner<Void, Void> {
    private static final Check CHECK = new Check("LanguageTest");
    private static final String FACE = "status():int top():long bottom():long tray(int,int,int):boolean write(int,int,long):boolean "
            + "read(int,int):long pour(int,int,int,int,int):boolean feed(int,int,int,int,int):int court(int):int weeks(int):int "
            + "fault(int):int many(int):int juror(int,int):int sways(int,int):int proof(int):int follows(int,int):int "
            + "grows(int,int):int crop(int):int copyLeanings(int):int show(int):int talk(int):int endDay():int "
            + "strike(int):boolean seat(int):boolean bribe(int,int):int lean(int,int):boolean votes(int):int verdict():int "
            + "verdictBy(int):int swing():int lacks():int nearest():int pull(int):int behind(int):int settles(int):int "
            + "after(int):int soonest(int):int bestOrder(int):int orderAt(int):int bribes(int,int,int):int bribeSet():int "
            + "strikes(int):int firstStrike(int):int drawn(int,int,int):boolean row(int,int):int rowGrows(int,int,int):int "
            + "way(int):int harvest(int,int):int harvestNow(int,int):int reach():int live(int):int lived(int):int "
            + "mean(int,int,int):boolean mark():int back():int";
    private static final Set<String> LIBRARY = Set.of("java.lang.System.arraycopy", "java.lang.Integer.bitCount",
            "java.lang.Integer.compare", "java.lang.Math.abs", "java.lang.Math.max", "java.lang.Math.min",
            "java.lang.String.length", "java.lang.String.charAt", "java.lang.Object.<init>");

    private final CompilationUnitTree unit;
    private final Trees trees;
    private final Map<Element, Set<Element>> calls = new HashMap<>();
    private final Set<String> publicNames = new HashSet<>();
    private Element method = null;
    private boolean mayMake = false;
    private int classes = 0;

    private LanguageTest(CompilationUnitTree unit, Trees trees) {
        this.unit = unit;
        this.trees = trees;
    }

    public static void main(String[] args) throws IOException {
        face();
        JavaCompiler compiler = ToolProvider.getSystemJavaCompiler();
        StandardJavaFileManager files = compiler.getStandardFileManager(null, null, null);
        JavacTask task = (JavacTask) compiler.getTask(null, files, null, List.of("-proc:none"), null,
                files.getJavaFileObjects(new File(args[0])));
        CompilationUnitTree unit = task.parse().iterator().next();
        task.analyze();
        CHECK.due("imports", unit.getImports().size(), 0);
        LanguageTest looker = new LanguageTest(unit, Trees.instance(task));
        looker.scan(unit, null);
        CHECK.due("classes: twelve at most", looker.classes <= 12, true);
        looker.depths();
        CHECK.end();
    }

    private static void face() {
        Set<String> want = new TreeSet<>(List.of(FACE.split(" ")));
        Set<String> got = new TreeSet<>();
        for (Method method : RainJury.class.getDeclaredMethods()) {
            if (!Modifier.isPrivate(method.getModifiers())) {
                StringBuilder told = new StringBuilder(method.getName()).append('(');
                for (Class<?> kind : method.getParameterTypes()) {
                    told.append(told.charAt(told.length() - 1) == '(' ? "" : ",").append(kind.getName());
                }
                got.add(told.append("):").append(method.getReturnType().getName()).toString());
                CHECK.due(method.getName() + " is public", Modifier.isPublic(method.getModifiers()), true);
            }
        }
        CHECK.due("the face, but for " + got + " against " + want, got.equals(want), true);
        for (Field field : RainJury.class.getDeclaredFields()) {
            boolean hidden = Modifier.isPrivate(field.getModifiers());
            CHECK.due("field " + field.getName(), hidden, !field.getName().equals("NONE"));
        }
        for (Constructor<?> made : RainJury.class.getDeclaredConstructors()) {
            CHECK.due("the constructor", made.getParameterCount() == 0 && Modifier.isPublic(made.getModifiers()), true);
        }
        CHECK.due("public and final", RainJury.class.getModifiers(), Modifier.PUBLIC | Modifier.FINAL);
        CHECK.due("NONE", RainJury.NONE, -1);
    }

    private long line(long place) {
        return unit.getLineMap().getLineNumber(place);
    }

    private void refuse(Tree tree, String why) {
        CHECK.due(why + " in line " + line(trees.getSourcePositions().getStartPosition(unit, tree)), 1, 0);
    }

    @Override
    public Void visitClass(ClassTree tree, Void none) {
        classes++;
        int fields = 0;
        for (Tree member : tree.getMembers()) {
            if (member instanceof VariableTree field) {
                Set<javax.lang.model.element.Modifier> is = field.getModifiers().getFlags();
                boolean isStatic = is.contains(javax.lang.model.element.Modifier.STATIC);
                fields += isStatic ? 0 : 1;
                CHECK.due(field.getName() + " is final if static", !isStatic || is.contains(javax.lang.model.element.Modifier.FINAL), true);
            } else if (member instanceof MethodTree method && classes == 1
                    && method.getModifiers().getFlags().contains(javax.lang.model.element.Modifier.PUBLIC)) {
                publicNames.add(method.getName().toString());
            } else if (member instanceof ClassTree inner) {
                CHECK.due(inner.getSimpleName() + " is static",
                        inner.getModifiers().getFlags().contains(javax.lang.model.element.Modifier.STATIC), true);
            }
        }
        CHECK.due(tree.getSimpleName() + " has some twenty fields at most", fields <= 20, true);
        boolean mightMake = mayMake;
        mayMake = true;
        super.visitClass(tree, none);
        mayMake = mightMake;
        return null;
    }

    @Override
    public Void visitMethod(MethodTree tree, Void none) {
        String name = tree.getName().toString();
        long first = line(trees.getSourcePositions().getStartPosition(unit, tree));
        long last = line(trees.getSourcePositions().getEndPosition(unit, tree));
        CHECK.due(name + " has sixty lines at most", last - first < 60, true);
        CHECK.due(name + " takes seven at most", tree.getParameters().size() <= 7, true);
        boolean inside = !tree.getModifiers().getFlags().contains(javax.lang.model.element.Modifier.PUBLIC);
        CHECK.due(name + " bears the name of a public one", inside && !name.equals("<init>") && publicNames.contains(name), false);
        method = trees.getElement(getCurrentPath());
        calls.put(method, new HashSet<>());
        mayMake = name.equals("<init>");
        super.visitMethod(tree, none);
        mayMake = true;
        method = null;
        return null;
    }

    @Override
    public Void visitMethodInvocation(MethodInvocationTree tree, Void none) {
        Element called = trees.getElement(getCurrentPath());
        String owner = called.getEnclosingElement().toString();
        if (owner.startsWith("RainJury")) {
            if (method != null) {
                calls.get(method).add(called);
            }
        } else {
            String name = owner + "." + called.getSimpleName();
            CHECK.due(name + " is of the library that may be used", LIBRARY.contains(name), true);
        }
        return super.visitMethodInvocation(tree, none);
    }

    /** Rows are made by constructors alone, so that calls make nothing. */
    @Override
    public Void visitNewArray(NewArrayTree tree, Void none) {
        CHECK.due("an array is made in a constructor", mayMake, true);
        return super.visitNewArray(tree, none);
    }

    @Override
    public Void visitNewClass(NewClassTree tree, Void none) {
        CHECK.due("an object is made in a constructor", mayMake && tree.getClassBody() == null, true);
        return super.visitNewClass(tree, none);
    }

    @Override
    public Void visitBinary(BinaryTree tree, Void none) {
        if (tree.getLeftOperand() instanceof LiteralTree left && left.getValue() instanceof String
                || tree.getRightOperand() instanceof LiteralTree right && right.getValue() instanceof String) {
            refuse(tree, "a text in an operation");
        }
        return super.visitBinary(tree, none);
    }

    @Override
    public Void visitThrow(ThrowTree tree, Void none) {
        refuse(tree, "throw");
        return null;
    }

    @Override
    public Void visitTry(TryTree tree, Void none) {
        refuse(tree, "try");
        return null;
    }

    @Override
    public Void visitSynchronized(SynchronizedTree tree, Void none) {
        refuse(tree, "synchronized");
        return null;
    }

    @Override
    public Void visitAssert(AssertTree tree, Void none) {
        refuse(tree, "assert");
        return null;
    }

    @Override
    public Void visitLambdaExpression(LambdaExpressionTree tree, Void none) {
        refuse(tree, "a lambda");
        return null;
    }

    @Override
    public Void visitMemberReference(MemberReferenceTree tree, Void none) {
        refuse(tree, "a method reference");
        return null;
    }

    private void depths() {
        for (Element one : calls.keySet()) {
            int deep = depth(one, new HashSet<>());
            CHECK.due(one + " goes eight deep at most (" + deep + ")", deep <= 8 || one.getKind() == ElementKind.CONSTRUCTOR, true);
        }
    }

    private int depth(Element one, Set<Element> open) {
        int deepest = 0;
        open.add(one);
        for (Element called : calls.getOrDefault(one, Set.of())) {
            if (!open.contains(called)) {
                deepest = Math.max(deepest, depth(called, open));
            }
        }
        open.remove(one);
        return deepest + 1;
    }
}
