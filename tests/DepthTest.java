import java.io.PrintWriter;
import java.io.StringWriter;
import java.nio.file.Path;
import java.util.ArrayList;
import java.util.HashMap;
import java.util.List;
import java.util.Map;
import java.util.Optional;
import java.util.Set;
import java.util.TreeSet;
import java.util.regex.Matcher;
import java.util.regex.Pattern;
import java.util.spi.ToolProvider;

/** Rules 8 and 11 of LANGUAGE.md: nothing calls itself, and calls go at most eight deep, by what is compiled. */
public final class DepthTest {
    private static final int MOST_DEEP = 8;
    private static final Pattern OWNER = Pattern.compile("^(?:\\w+ )*class (\\S+?)(?: .*)?\\{$");
    private static final Pattern METHOD = Pattern.compile("^  (?:[^ (].* )?([\\w$.]+)\\((.*)\\)(?: throws .*)?;$");
    private static final Pattern CALLED = Pattern.compile("// (?:Interface)?Method ([\\w$/.\"<>]+):(\\S+)");

    private static final Map<String, Set<String>> calls = new HashMap<>();
    private static final Map<String, List<String>> longest = new HashMap<>();
    private static final List<String> wrong = new ArrayList<>();

    public static void main(String[] args) throws Exception {
        Optional<ToolProvider> javap = ToolProvider.findFirst("javap");
        if (javap.isEmpty()) {
            System.out.println("DepthTest: this Java has no javap, nothing is looked at");
            return;
        }
        List<Class<?>> classes = new ArrayList<>(List.of(FenceHeap.class));
        classes.addAll(List.of(FenceHeap.class.getDeclaredClasses()));
        Path place = Path.of(FenceHeap.class.getProtectionDomain().getCodeSource().getLocation().toURI());
        for (Class<?> one : classes) {
            StringWriter listing = new StringWriter();
            javap.get().run(new PrintWriter(listing), new PrintWriter(listing), "-c", "-p",
                place.resolve(one.getName() + ".class").toString());
            read(listing.toString());
        }
        List<String> deepest = List.of();
        for (String method : new TreeSet<>(calls.keySet())) {
            List<String> way = longestFrom(method, new ArrayList<>());
            deepest = way.size() > deepest.size() ? way : deepest;
        }
        // If javap's form were not understood, there would be no calls.
        if (calls.size() < FenceHeap.class.getDeclaredMethods().length || deepest.size() < 3) {
            wrong.add("the calls are not found");
        }
        if (deepest.size() > MOST_DEEP) {
            wrong.add("more than " + MOST_DEEP + " calls deep: " + deepest);
        }
        wrong.forEach(what -> System.out.println("DepthTest: " + what));
        System.out.println("DepthTest: " + calls.size() + " methods, at most " + deepest.size() + " deep, "
            + wrong.size() + " wrong");
        System.exit(wrong.isEmpty() ? 0 : 1);
    }

    /** Methods of one name in one class count as one: there is none such in FenceHeap. */
    private static void read(String listing) {
        String owner = "";
        Set<String> called = new TreeSet<>();
        for (String row : listing.split("\\R")) {
            Matcher kind = OWNER.matcher(row);
            Matcher method = METHOD.matcher(row);
            Matcher call = CALLED.matcher(row);
            if (kind.matches()) {
                owner = kind.group(1);
            } else if (method.matches() && !row.startsWith("   ")) {
                String name = method.group(1).equals(owner) ? "<init>" : method.group(1);
                called = calls.computeIfAbsent(owner + "." + name, key -> new TreeSet<>());
            } else if (call.find()) {
                String name = call.group(1).replace("\"", "");
                called.add(name.contains(".") ? name : owner + "." + name);
            }
        }
    }

    private static List<String> longestFrom(String method, List<String> open) {
        if (open.contains(method)) {
            wrong.add(method + " calls itself by " + open);
            return List.of(method);
        }
        if (longest.containsKey(method)) {
            return longest.get(method);
        }
        open.add(method);
        List<String> best = List.of();
        for (String other : calls.getOrDefault(method, Set.of())) {
            List<String> way = calls.containsKey(other) ? longestFrom(other, open) : List.of();
            best = way.size() > best.size() ? way : best;
        }
        open.remove(open.size() - 1);
        List<String> whole = new ArrayList<>(List.of(method));
        whole.addAll(best);
        longest.put(method, whole);
        return whole;
    }
}
