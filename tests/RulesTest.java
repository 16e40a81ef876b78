import java.lang.reflect.Constructor;
import java.lang.reflect.Field;
import java.lang.reflect.Method;
import java.lang.reflect.Modifier;
import java.nio.file.Files;
import java.nio.file.Path;
import java.util.ArrayList;
import java.util.List;
import java.util.Set;
import java.util.TreeSet;
import java.util.regex.Matcher;
import java.util.regex.Pattern;

/** What can be told of the rules of LANGUAGE.md from outside: the face, what the source says, what a run makes. */
public final class RulesTest {
    private static int wrong = 0;

    private static void must(boolean is, String what) {
        if (!is) {
            wrong++;
            System.out.println("RulesTest: " + what);
        }
    }

    public static void main(String[] args) throws Exception {
        face();
        names();
        sizes();
        source(Files.readString(Path.of(args.length > 0 ? args[0] : "src/main/java/FenceHeap.java")));
        room();
        System.out.println("RulesTest: " + wrong + " wrong");
        System.exit(wrong == 0 ? 0 : 1);
    }

    static final String[] METHODS = {"int feed(int,int,int,int,int)", "int heap(int)", "int fault()", "int count(int)",
        "int word(int,boolean)", "int line(int,int)", "int micro(int,int)", "long orders()", "int shape(int,int)",
        "int steps(int)", "int evict(int,int)", "int crash(int)", "int recover()", "int later(int,int,int)", "int site(int)",
        "int undo()", "int recovered(int,int)", "int fate(int)", "int check(int)", "int needless()", "int least(int)",
        "int chance(int)", "int see(int,int)", "int explained(int)", "int look(int)", "void forget()",
        "int years(int,int,int)", "void image()", "boolean restore()"};

    static String told(Method m) {
        StringBuilder text = new StringBuilder(m.getReturnType() + " " + m.getName() + "(");
        for (Class<?> type : m.getParameterTypes()) {
            text.append(text.toString().endsWith("(") ? "" : ",").append(type);
        }
        return text.append(")").toString();
    }

    static void face() {
        must(Modifier.isPublic(FenceHeap.class.getModifiers()) && Modifier.isFinal(FenceHeap.class.getModifiers()),
            "the class is public and final");
        Set<String> got = new TreeSet<>();
        for (Method m : FenceHeap.class.getDeclaredMethods()) {
            if (!Modifier.isPrivate(m.getModifiers())) {
                got.add(told(m));
                must(m.getModifiers() == Modifier.PUBLIC, m + " is public alone");
            }
        }
        must(got.equals(new TreeSet<>(List.of(METHODS))), "the methods are those of the document: " + got);
        Set<String> fields = new TreeSet<>();
        for (Field f : FenceHeap.class.getDeclaredFields()) {
            if (!Modifier.isPrivate(f.getModifiers())) {
                fields.add(f.getName());
            }
        }
        must(fields.equals(Set.of("NONE", "TOO_MANY")), "the constants are those of the document: " + fields);
        Constructor<?>[] made = FenceHeap.class.getDeclaredConstructors();
        must(made.length == 1 && Modifier.isPublic(made[0].getModifiers()) && made[0].getParameterCount() == 0,
            "one constructor");
    }

    static List<Class<?>> classes() {
        List<Class<?>> all = new ArrayList<>(List.of(FenceHeap.class));
        all.addAll(List.of(FenceHeap.class.getDeclaredClasses()));
        return all;
    }

    static void names() {
        Set<String> ours = new TreeSet<>();
        for (String method : METHODS) {
            ours.add(method.substring(method.indexOf(' ') + 1, method.indexOf('(')));
        }
        for (Class<?> one : classes()) {
            for (Method m : one.getDeclaredMethods()) {
                boolean isFace = one == FenceHeap.class && Modifier.isPublic(m.getModifiers());
                must(isFace || !ours.contains(m.getName()), m + " bears a name of the face");
            }
        }
    }

    static void sizes() {
        must(classes().size() <= 12, "at most twelve classes");
        for (Class<?> one : classes()) {
            int fields = 0;
            for (Field f : one.getDeclaredFields()) {
                boolean isStatic = Modifier.isStatic(f.getModifiers());
                must(!isStatic || Modifier.isFinal(f.getModifiers()), f + " is static and final");
                fields += isStatic ? 0 : 1;
            }
            must(fields <= 20, one + " has at most twenty fields");
            must(one == FenceHeap.class || Modifier.isStatic(one.getModifiers()), one + " is static");
            for (Method m : one.getDeclaredMethods()) {
                must(m.getParameterCount() <= 7, m + " takes at most seven");
            }
        }
    }

    static void source(String text) {
        Matcher imports = Pattern.compile("(?m)^import (.*);$").matcher(text);
        while (imports.find()) {
            must(Set.of("java.util.Arrays", "java.util.NoSuchElementException").contains(imports.group(1)),
                "import of " + imports.group(1));
        }
        String code = text.replaceAll("(?s)/\\*.*?\\*/", "").replaceAll("//[^\n]*", "").replaceAll("\"[^\"\n]*\"", "\"\"");
        String[] banned = {"->", "::", "\\bcatch\\b", "\\btry\\b", "\\bfinally\\b", "\\bsynchronized\\b", "\\bassert\\b",
            "\\bpackage\\b", "\\bprotected\\b", "System\\.(?!arraycopy)", "Exact\\b", "\\bRandom\\b", "\\bThread\\b",
            "\"\" \\+", "\\+ \"\"", "\\bfloat\\b", "\\bdouble\\b", "Arrays\\.(?!fill\\()", "\\bstatic \\{"};
        for (String pattern : banned) {
            must(!Pattern.compile(pattern).matcher(code).find(), "the source has " + pattern);
        }
        Matcher thrown = Pattern.compile("throw ([^;]*);").matcher(code);
        while (thrown.find()) {
            must(thrown.group(1).matches("new (NoSuchElement|IllegalArgument)Exception\\(\"\"\\)"), thrown.group());
        }
        String[] rows = text.split("\n");
        int start = 0;
        for (int i = 0; i < rows.length; i++) {
            if (rows[i].matches(" {4,8}[a-z][^=;]*\\(.*\\{")) {
                start = i;
            } else if (rows[i].matches(" {4,8}\\}") && start > 0) {
                must(i - start < 60, "a method of more than sixty lines at " + (start + 1));
                start = 0;
            }
        }
        for (int i = 0; i < text.length(); i++) {
            must(text.charAt(i) < 127, "a sign above 126 at " + i);
        }
    }

    // A run's dearest calls: 40 acts are kept, an image of them too, all orders are looked at.
    static void room() {
        com.sun.management.ThreadMXBean bean =
            (com.sun.management.ThreadMXBean) java.lang.management.ManagementFactory.getThreadMXBean();
        dearRun();
        long before = bean.getThreadAllocatedBytes(Thread.currentThread().getId());
        dearRun();
        long made = bean.getThreadAllocatedBytes(Thread.currentThread().getId()) - before;
        must(made < 400_000, "a run of 512 calls makes " + made + " bytes");
    }

    static void dearRun() {
        FenceHeap heap = new FenceHeap();
        heap.feed(0x7265646f, 0x3b202020, 0x20202020, 0x20202020, 0x20202020);
        heap.heap(20);
        for (int i = 0; i < 51; i++) {
            heap.later(i % 5, i % 4 + (i % 5 == 3 ? 20 : 0), (i + 1) % 4);
            heap.steps(7);
            heap.check(0);
            heap.needless();
            heap.least(0);
            heap.years(i, 30, 1);
            heap.explained(1);
            heap.look(1);
            heap.image();
            heap.restore();
        }
    }
}
