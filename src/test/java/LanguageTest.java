import java.io.File;
import java.io.IOException;
import java.nio.file.Files;
import java.util.HashMap;
import java.util.List;
import java.util.Map;
import java.util.Set;
import java.util.TreeSet;

/** The rules of LANGUAGE.md that can be seen in the lines of FireNet; FaceTest looks at those of its face. */
public final class LanguageTest {
    private static final File FILE = new File("src/main/java/FireNet.java");
    private static final int DEEPEST = 8;

    private final Source source = Source.read(FILE);
    private final Map<String, Integer> depths = new HashMap<>();

    private LanguageTest() {
    }

    public static void main(String[] args) {
        Checks checks = new Checks();
        LanguageTest test = new LanguageTest();
        checks.test("LANGUAGE.md 1: one class, no package line", () -> test.nothingRefusedBy(1));
        checks.test("LANGUAGE.md 2: no local class, no lambda, no method reference", () -> test.nothingRefusedBy(2));
        checks.test("LANGUAGE.md 3: types", () -> test.nothingRefusedBy(3));
        checks.test("LANGUAGE.md 3, 4: signs 1 to 127", LanguageTest::signs);
        checks.test("LANGUAGE.md 4, 13: \"only what stands here\"", () -> test.nothingRefusedBy(4));
        checks.test("LANGUAGE.md 5: static fields are constants", () -> test.nothingRefusedBy(5));
        checks.test("LANGUAGE.md 6: exceptions, sameness and casts", () -> test.nothingRefusedBy(6));
        checks.test("LANGUAGE.md 8, 11: no recursion, and calls \"at most eight deep\"", test::depths);
        checks.test("LANGUAGE.md 9: \"Every loop has an end\"", () -> test.nothingRefusedBy(9));
        checks.test("LANGUAGE.md 10: \"joining texts by StringBuilder (not by +)\"", () -> test.nothingRefusedBy(10));
        checks.test("LANGUAGE.md 11: \"Methods stay short\", seven parameters", () -> test.nothingRefusedBy(11));
        checks.finish();
    }

    private void nothingRefusedBy(int rule) {
        List<String> found = source.refusedBy(rule);
        if (!found.isEmpty()) {
            throw new AssertionError(found.toString());
        }
    }

    private static void signs() {
        try {
            for (byte sign : Files.readAllBytes(FILE.toPath())) {
                Checks.yes(sign > 0);
            }
        } catch (IOException e) {
            throw new IllegalStateException(e);
        }
    }

    private void depths() {
        Checks.yes(source.calls.size() > 30);
        for (String method : source.calls.keySet()) {
            int depth = depthOf(method, new TreeSet<>());
            if (depth > DEEPEST) {
                throw new AssertionError(method + " goes " + depth + " deep");
            }
        }
    }

    /** How many calls stand open at once, itself and those of the library counted. */
    private int depthOf(String method, Set<String> open) {
        if (depths.containsKey(method)) {
            return depths.get(method);
        }
        if (!open.add(method)) {
            throw new AssertionError(method + " calls itself");
        }
        int deepest = 0;
        for (String called : source.calls.getOrDefault(method, Set.of())) {
            deepest = Math.max(deepest, depthOf(called, open));
        }
        open.remove(method);
        depths.put(method, deepest + 1);
        return deepest + 1;
    }
}
