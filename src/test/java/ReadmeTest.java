import java.io.IOException;
import java.lang.reflect.Method;
import java.nio.file.Files;
import java.nio.file.Path;
import java.util.regex.Matcher;
import java.util.regex.Pattern;

/** What README.md says about the calls is so: the answers behind them, and no call is left out. */
final class ReadmeTest {
    private static final int CALLS = 21;

    private ReadmeTest() {
    }

    public static void main(String[] args) throws IOException {
        String page = Files.readString(Path.of("README.md"));
        answers(page);
        names(page);
        Check.end();
    }

    private static void answers(String page) {
        WrittenCalls calls = new WrittenCalls();
        Matcher line = Pattern.compile("(?m)^tree\\.(\\w+\\(.*?\\)); +// (throws \\w+|[-.\\w]+)").matcher(page);
        int many = 0;
        while (line.find()) {
            Check.same("README.md: " + line.group(1), calls.answer(line.group(1)), line.group(2));
            many++;
        }
        Check.same("calls in README.md", many, CALLS);
    }

    private static void names(String page) {
        for (Method method : ComponentTree.class.getMethods()) {
            if (method.getDeclaringClass() == ComponentTree.class) {
                String name = "`" + method.getName() + "`";
                Check.same("README.md names " + name, page.contains(name), true);
            }
        }
    }
}
