import java.lang.reflect.Method;
import java.nio.file.Files;
import java.nio.file.Path;
import java.util.regex.Matcher;
import java.util.regex.Pattern;

/** Makes the calls that README.md shows, in its order: each must answer the number that stands behind it. */
public final class ReadmeTest {
    private static final Check CHECK = new Check("ReadmeTest");
    private static final Pattern CODE = Pattern.compile("(?s)```java\n(.*?)```");
    private static final Pattern CALL = Pattern.compile("court\\.(\\w+)\\(([^)]*)\\); +// (-?\\d+): .*");
    private static final Pattern FEED =
        Pattern.compile("for \\(char c : \"([^\"]*)\"\\.toCharArray\\(\\)\\) court\\.feed\\(c, 1\\);");

    public static void main(String[] args) throws Exception {
        String page = Files.readString(readme());
        PennyRates court = new PennyRates();
        int calls = 0;
        Matcher code = CODE.matcher(page);
        while (code.find()) {
            for (String line : code.group(1).split("\n")) {
                if (!line.isBlank() && !line.equals("PennyRates court = new PennyRates();")) {
                    follow(court, line);
                    calls++;
                }
            }
        }
        CHECK.holds("README.md shows calls: " + calls, calls > 40);
        CHECK.holds("README.md says how to run the tests", page.contains(".ci/run"));
        CHECK.end();
    }

    private static Path readme() {
        Path main = Path.of(System.getProperty("main", "src/main/java/PennyRates.java")).toAbsolutePath();
        Path root = main.getParent().getParent().getParent().getParent();
        return root.resolve("README.md");
    }

    private static void follow(PennyRates court, String line) throws Exception {
        Matcher feed = FEED.matcher(line);
        Matcher call = CALL.matcher(line);
        if (feed.matches()) {
            Check.feed(court, feed.group(1));
        } else if (call.matches()) {
            long got = answer(court, call.group(1), call.group(2));
            CHECK.due(call.group(1) + "(" + call.group(2) + ")", got, Long.parseLong(call.group(3)));
        } else {
            CHECK.holds("a line that can be followed: " + line, false);
        }
    }

    private static long answer(PennyRates court, String name, String told) throws Exception {
        String[] numbers = told.isEmpty() ? new String[0] : told.split(", ");
        for (Method m : PennyRates.class.getMethods()) {
            if (m.getName().equals(name) && m.getParameterCount() == numbers.length) {
                Object[] arguments = new Object[numbers.length];
                for (int k = 0; k < numbers.length; k++) {
                    long n = Long.parseLong(numbers[k]);
                    arguments[k] = m.getParameterTypes()[k] == long.class ? (Object) n : (Object) (int) n;
                }
                return ((Number) m.invoke(court, arguments)).longValue();
            }
        }
        CHECK.holds("a call of the face: " + name, false);
        return 0;
    }
}
