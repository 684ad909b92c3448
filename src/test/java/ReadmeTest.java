import java.io.IOException;
import java.nio.file.Files;
import java.nio.file.Path;
import java.util.ArrayList;
import java.util.List;

/** The example of README.md answers what it says there; .ci/run starts the test where README.md is. */
public final class ReadmeTest {
    private static final Checks CHECKS = new Checks("ReadmeTest");

    public static void main(String[] args) throws IOException {
        example();
        List<String> told = linesBetween("README.md", "```java", "```");
        List<String> run = linesBetween("src/test/java/ReadmeTest.java", "// the example", "// its end");
        CHECKS.due("lines of the example", told.size(), run.size());
        for (int i = 0; i < told.size() && i < run.size(); i++) {
            CHECKS.due("'" + told.get(i) + "' is what was run", told.get(i).equals(run.get(i)), true);
        }
        CHECKS.end();
    }

    private static void example() {
        // the example
        BeanContexts x = new BeanContexts(3);     // at most three contexts are cached
        x.extend(1, 0);                           // type 1 is type 0
        int store = x.define(1, 0, 0, 0);         // type, flags, qualifier, profile
        int shop = x.define(2, 0, 0, 0);
        x.need(shop, 0, 0, -1);                   // shop needs a bean of type 0: store fits
        int plain = x.configure(3, 0, -1, 0);     // both definitions, no parent, no mocks
        int mocked = x.configure(3, 0, -1, 1);    // the same with store mocked

        int context = x.request(plain);           // builds the context and answers its number, 0
        int bean = x.get(plain, 2, 0, -1);        // the bean of shop, 1: that of store was made before it
        long answer = x.call(bean, 10);           // 1 + (0 + 11) = 12

        x.request(mocked);
        int mock = x.get(mocked, 0, 0, -1);
        x.stub(mock, 100);
        long mocking = x.call(x.get(mocked, 2, 0, -1), 10); // 1 + 100
        long last = x.recorded(mock, 1);          // 11, the argument of the mock's latest call

        int event = x.event(0);                   // 129 = 64 * 2 + 1: context 1 was built
        int closed = x.dirty(plain);              // 1 context was closed, its beans are gone
        int gone = x.definition(bean);            // -1
        // its end
        CHECKS.due("store", store, 0);
        CHECKS.due("context", context, 0);
        CHECKS.due("bean", bean, 1);
        CHECKS.due("answer", answer, 12);
        CHECKS.due("mocking", mocking, 101);
        CHECKS.due("last", last, 11);
        CHECKS.due("event", event, 129);
        CHECKS.due("closed", closed, 1);
        CHECKS.due("gone", gone, -1);
    }

    private static List<String> linesBetween(String file, String first, String end) throws IOException {
        List<String> lines = new ArrayList<>();
        boolean inside = false;
        for (String line : Files.readAllLines(Path.of(file))) {
            if (inside && line.strip().equals(end)) {
                break;
            }
            if (inside) {
                lines.add(line.strip());
            }
            inside |= line.strip().equals(first);
        }
        return lines;
    }
}
