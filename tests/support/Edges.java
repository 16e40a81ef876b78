import java.io.IOException;
import java.nio.file.Files;
import java.nio.file.Path;

/** Goes through sentences of the document that name a boundary; each has a test of its own. */
final class Edges {
    private final String document = readDocument();
    private String words = "";
    private int sentences = 0;
    private int asked = 0;
    private int wrong = 0;

    private static String readDocument() {
        try {
            Path path = Path.of("..", "shared", "DOC.md");
            return Files.exists(path) ? plain(Files.readString(path)) : "";
        } catch (IOException e) {
            return "";
        }
    }

    private static String plain(String text) {
        return text.replaceAll("\\s+", " ");
    }

    /** The sentence, as the document has it, and its test. */
    void sentence(String told, Runnable test) {
        words = told;
        sentences++;
        if (!document.isEmpty() && !document.contains(plain(told))) {
            tell("the document has no such sentence");
        }
        try {
            test.run();
        } catch (IllegalStateException e) {
            tell(e.getMessage());
        }
    }

    void is(long due, long got) {
        asked++;
        if (due != got) {
            tell(Told.latest + " answered " + named(got) + ", due is " + named(due));
        }
    }

    /** Nothing that can be asked differs between two objects. */
    void alike(Told due, Told got) {
        asked++;
        String[] one = due.picture().split("\n");
        String[] other = got.picture().split("\n");
        for (int i = 0; i < Math.max(one.length, other.length); i++) {
            String want = i < one.length ? one[i] : "nothing";
            String have = i < other.length ? other[i] : "nothing";
            if (!want.equals(have)) {
                tell("then '" + have + "', due is '" + want + "'");
                return;
            }
        }
    }

    private void tell(String what) {
        wrong++;
        System.out.println("line " + callingLine() + ", \"" + words + "\": " + what);
    }

    private static int callingLine() {
        for (StackTraceElement place : new Throwable().getStackTrace()) {
            String name = place.getClassName();
            if (!name.equals("Edges") && !name.equals("Told") && !place.getMethodName().equals("is")) {
                return place.getLineNumber();
            }
        }
        return 0;
    }

    private static String named(long answer) {
        if (answer == Told.NO_SUCH) {
            return "NoSuchElementException";
        }
        if (answer == Told.ILLEGAL) {
            return "IllegalArgumentException";
        }
        return answer == Told.OTHER ? "another exception" : String.valueOf(answer);
    }

    /** Ends the test. */
    void end(String name) {
        System.out.println(name + ": " + sentences + " sentences, " + asked + " answers, " + wrong + " wrong");
        System.exit(wrong == 0 ? 0 : 1);
    }
}
