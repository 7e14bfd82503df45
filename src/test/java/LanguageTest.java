import com.sun.source.tree.*;
import com.sun.source.util.JavacTask;
import com.sun.source.util.TreePath;
import com.sun.source.util.TreePathScanner;
import java.lang.reflect.Constructor;
import java.lang.reflect.Field;
import java.lang.reflect.Method;
import java.lang.reflect.Modifier;
import java.nio.file.Files;
import java.nio.file.Path;
import java.util.ArrayList;
import java.util.Arrays;
import java.util.HashMap;
import java.util.HashSet;
import java.util.List;
import java.util.Map;
import java.util.Set;
import java.util.TreeSet;
import javax.tools.JavaCompiler;
import javax.tools.ToolProvider;

/** The rules of LANGUAGE.md that can be seen in the source, and the face that the document tells. */
public final class LanguageTest {
    private static final Due DUE = new Due("LanguageTest");
    private static final String FACE = "row(int,int,int)int set(int,int,int)int copy(int,int,int,int,int)int drop(int)int "
        + "feed(int)int room()int fault()int undo()int minutes(int)int hand(int,int)int carry(int,int)int "
        + "change(int,int)int lorry(int)int need(int,int)int child(int,int)int stand(int)int ahead(int,int)int "
        + "noise(int,int)int asleep(int)int allAsleep()int dinner(int)int hands(int,int)int outs(int,int)int "
        + "best(int,int)int silence()int wakes(int)int loudest()int who(int,int,int,int,int)int held(int,int,int)int "
        + "lorries(int,int,int,int)long drawn(int,int,int)int image(int)int restore(int)int kind(int)int as(int,int)int "
        + "ask(int,int)int trace(int)int count(int)int status()int";
    private static final Set<String> LIBRARY = Set.of("Math.max", "Math.min", "Math.abs", "Integer.bitCount",
        "System.arraycopy");

    public static void main(String[] args) throws Exception {
        face();
        Path source = Path.of(args.length > 0 ? args[0] : "src/main/java/AsleepCots.java");
        JavaCompiler compiler = ToolProvider.getSystemJavaCompiler();
        var files = compiler.getStandardFileManager(null, null, null);
        var task = (JavacTask) compiler.getTask(null, files, null, List.of("-proc:none"), null,
            files.getJavaFileObjects(source));
        CompilationUnitTree unit = task.parse().iterator().next();
        DUE.holds("no package, no imports", unit.getPackage() == null && unit.getImports().isEmpty());
        DUE.holds("one class in the file", unit.getTypeDecls().size() == 1);
        Rules rules = new Rules();
        rules.scan(new TreePath(unit), null);
        rules.classes();
        rules.calls();
        DUE.holds("signs 1 to 127 alone", Files.readString(source).chars().allMatch(c -> c > 0 && c < 128));
        DUE.end();
    }

    private static void face() {
        Class<?> face = AsleepCots.class;
        DUE.holds("public and final", Modifier.isPublic(face.getModifiers()) && Modifier.isFinal(face.getModifiers()));
        Set<String> seen = new TreeSet<>();
        Set<String> open = new HashSet<>();
        for (Method m : face.getDeclaredMethods()) {
            if (Modifier.isPublic(m.getModifiers())) {
                String parameters = String.join(",", Arrays.stream(m.getParameterTypes()).map(Class::getName).toList());
                seen.add(m.getName() + "(" + parameters + ")" + m.getReturnType().getName());
                open.add(m.getName());
            } else {
                DUE.holds("private: " + m.getName(), Modifier.isPrivate(m.getModifiers()));
            }
        }
        Set<String> told = new TreeSet<>(List.of(FACE.split(" ")));
        DUE.holds("the face: " + seen, seen.equals(told));
        for (Constructor<?> c : face.getDeclaredConstructors()) {
            DUE.holds("one constructor", Modifier.isPublic(c.getModifiers()) && c.getParameterCount() == 0);
        }
        Set<String> constants = Set.of("NONE", "BAD", "STATE", "FULL");
        for (Field f : face.getDeclaredFields()) {
            boolean constant = constants.contains(f.getName());
            DUE.holds("field " + f.getName(), Modifier.isPublic(f.getModifiers()) == constant
                && (constant || Modifier.isPrivate(f.getModifiers())));
        }
        for (Class<?> inside : face.getDeclaredClasses()) {
            DUE.holds("static inside: " + inside, Modifier.isStatic(inside.getModifiers())
                && !Modifier.isPublic(inside.getModifiers()) && !Modifier.isProtected(inside.getModifiers()));
            for (Method m : inside.getDeclaredMethods()) {
                DUE.holds("no name of the face: " + m, !open.contains(m.getName()));
            }
        }
        for (Method m : face.getDeclaredMethods()) {
            DUE.holds("no name of the face: " + m, Modifier.isPublic(m.getModifiers()) || !open.contains(m.getName()));
        }
    }

    private static final class Rules extends TreePathScanner<Void, Void> {
        private static final Set<Tree.Kind> BARRED = Set.of(Tree.Kind.THROW, Tree.Kind.TRY, Tree.Kind.CATCH,
            Tree.Kind.SYNCHRONIZED, Tree.Kind.ASSERT, Tree.Kind.LAMBDA_EXPRESSION, Tree.Kind.MEMBER_REFERENCE,
            Tree.Kind.WHILE_LOOP, Tree.Kind.DO_WHILE_LOOP);
        private final Map<String, Set<String>> calls = new HashMap<>();
        private final List<ClassTree> classes = new ArrayList<>();

        @Override public Void scan(Tree tree, Void v) {
            if (tree != null) {
                DUE.holds("rules 2, 6, 9: " + tree.getKind() + " " + tree, !BARRED.contains(tree.getKind()));
            }
            return super.scan(tree, v);
        }

        @Override public Void visitClass(ClassTree tree, Void v) {
            classes.add(tree);
            Tree above = getCurrentPath().getParentPath().getLeaf();
            DUE.holds("rule 2: no local class", above instanceof ClassTree || above instanceof CompilationUnitTree);
            return super.visitClass(tree, v);
        }

        @Override public Void visitMethod(MethodTree tree, Void v) {
            DUE.holds("rule 11: seven parameters: " + tree.getName(), tree.getParameters().size() <= 7);
            DUE.holds("rule 11: short: " + tree.getName(), tree.toString().lines().count() <= 65);
            DUE.holds("rule 6: " + tree.getName(),
                !Set.of("equals", "hashCode", "toString").contains(tree.getName().toString()));
            calls.computeIfAbsent(tree.getName().toString(), k -> new HashSet<>());
            return super.visitMethod(tree, v);
        }

        @Override public Void visitMethodInvocation(MethodInvocationTree tree, Void v) {
            String called = tree.getMethodSelect().toString();
            int dot = called.lastIndexOf('.');
            String name = dot < 0 ? called : called.substring(dot + 1);
            if (dot > 0 && Character.isUpperCase(called.charAt(0))) {
                DUE.holds("rule 4: " + called, LIBRARY.contains(called));
            } else {
                String here = caller();
                if (here != null) {
                    calls.computeIfAbsent(here, k -> new HashSet<>()).add(name);
                }
            }
            return super.visitMethodInvocation(tree, v);
        }

        private String caller() {
            for (TreePath p = getCurrentPath(); p != null; p = p.getParentPath()) {
                if (p.getLeaf() instanceof MethodTree m) {
                    return m.getName().toString();
                }
            }
            return null;
        }

        /** Rows are made in constructors and used again: no call makes an object or an array. */
        private void made(Tree tree) {
            String here = caller();
            DUE.holds("made in a constructor: " + tree, here == null || here.equals("<init>"));
        }

        @Override public Void visitNewClass(NewClassTree tree, Void v) {
            DUE.holds("rule 2: no anonymous class", tree.getClassBody() == null);
            made(tree);
            return super.visitNewClass(tree, v);
        }

        @Override public Void visitNewArray(NewArrayTree tree, Void v) {
            made(tree);
            return super.visitNewArray(tree, v);
        }

        @Override public Void visitVariable(VariableTree tree, Void v) {
            Set<javax.lang.model.element.Modifier> flags = tree.getModifiers().getFlags();
            if (flags.contains(javax.lang.model.element.Modifier.STATIC)) {
                DUE.holds("rule 5: " + tree.getName(), flags.contains(javax.lang.model.element.Modifier.FINAL)
                    && Set.of("int", "long", "boolean", "char", "String", "int[]", "long[]", "char[]", "byte[]")
                        .contains(tree.getType().toString()));
            }
            return super.visitVariable(tree, v);
        }

        void classes() {
            DUE.holds("rule 11: twelve classes", classes.size() <= 12);
            for (ClassTree c : classes) {
                int fields = 0;
                for (Tree member : c.getMembers()) {
                    boolean block = member.getKind() == Tree.Kind.BLOCK;
                    DUE.holds("no initialiser block", !block);
                    if (member instanceof VariableTree f
                        && !f.getModifiers().getFlags().contains(javax.lang.model.element.Modifier.STATIC)) {
                        fields++;
                    }
                }
                DUE.holds("rule 11: twenty fields: " + c.getSimpleName(), fields <= 20);
            }
        }

        /** Calls by name: none goes deeper than eight, but for what calls itself with a depth. */
        void calls() {
            for (String name : calls.keySet()) {
                int deep = depth(name, new HashSet<>());
                DUE.holds("rule 11: calls eight deep: " + name + " " + deep, deep <= 8);
            }
        }

        private int depth(String name, Set<String> open) {
            if (!calls.containsKey(name) || !open.add(name)) {
                return 0;
            }
            int deepest = 0;
            for (String called : calls.get(name)) {
                deepest = Math.max(deepest, depth(called, open));
            }
            open.remove(name);
            return deepest + 1;
        }
    }
}
