import java.lang.reflect.InvocationTargetException;
import java.lang.reflect.Method;
import java.lang.reflect.Modifier;
import java.nio.file.Files;
import java.nio.file.Path;
import java.util.ArrayList;
import java.util.List;
import java.util.regex.Matcher;
import java.util.regex.Pattern;

/** The examples of README.md: each call answers the number that stands behind it, and the text has no fault. */
public final class ReadmeTest {
    private static final Pattern CALL = Pattern.compile("heap\\.(\\w+)\\((.*)\\); *// (.*)");
    private static int wrong = 0;
    private static int asked = 0;

    public static void main(String[] args) throws Exception {
        String readme = Files.readString(Path.of("README.md"));
        List<String> examples = blocks(readme, "java");
        List<String> texts = blocks(readme, "text");
        must(examples.size() == 2 && texts.size() == 1, "two examples and a text are found");
        for (String example : examples) {
            runExample(example);
        }
        for (String text : texts) {
            must(new Told().tell(withoutRemarks(text)) == 0, "the text has no fault");
        }
        for (Method m : FenceHeap.class.getDeclaredMethods()) {
            must(!Modifier.isPublic(m.getModifiers()) || readme.contains("`" + m.getName() + "`"),
                "README.md tells what " + m.getName() + " is for");
        }
        System.out.println("ReadmeTest: " + asked + " answers, " + wrong + " wrong");
        System.exit(wrong == 0 ? 0 : 1);
    }

    private static void must(boolean is, String what) {
        asked++;
        if (!is) {
            wrong++;
            System.out.println("ReadmeTest: not so: " + what);
        }
    }

    private static List<String> blocks(String readme, String kind) {
        List<String> found = new ArrayList<>();
        Matcher m = Pattern.compile("(?s)```" + kind + "\n(.*?)```").matcher(readme);
        while (m.find()) {
            found.add(m.group(1));
        }
        return found;
    }

    private static String withoutRemarks(String text) {
        return text.replaceAll(" {2,}[^\n]*", "");
    }

    private static void runExample(String example) throws Exception {
        FenceHeap heap = new FenceHeap();
        for (String row : example.split("\n")) {
            Matcher call = CALL.matcher(row);
            if (!call.matches()) {
                must(row.equals("FenceHeap heap = new FenceHeap();"), "a row that is no call: " + row);
            } else if (call.group(3).startsWith("\"")) {
                ask(heap, call.group(1), call.group(2));
                must(bytesOf(call.group(2)).trim().equals(call.group(3).replace("\"", "")), "what is fed by " + row);
            } else {
                long due = Long.parseLong(call.group(3).replaceAll("(-?[0-9]+).*", "$1"));
                must(ask(heap, call.group(1), call.group(2)) == due, row);
            }
        }
    }

    private static long ask(FenceHeap heap, String name, String told) throws Exception {
        for (Method m : FenceHeap.class.getMethods()) {
            if (m.getName().equals(name)) {
                try {
                    return ((Number) m.invoke(heap, arguments(told))).longValue();
                } catch (InvocationTargetException e) {
                    return Told.OTHER;
                }
            }
        }
        return Told.NO_SUCH;
    }

    private static Object[] arguments(String told) {
        List<Object> all = new ArrayList<>();
        for (String one : told.isEmpty() ? new String[0] : told.split(", ")) {
            boolean isTruth = one.equals("true") || one.equals("false");
            all.add(isTruth ? (Object) Boolean.valueOf(one) : (Object) Long.decode(one).intValue());
        }
        return all.toArray();
    }

    private static String bytesOf(String told) {
        StringBuilder text = new StringBuilder();
        for (Object number : arguments(told)) {
            for (int shift = 24; shift >= 0; shift -= 8) {
                text.append((char) ((Integer) number >> shift & 255));
            }
        }
        return text.toString();
    }
}
