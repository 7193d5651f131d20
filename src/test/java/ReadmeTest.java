import java.io.IOException;
import java.lang.reflect.Method;
import java.lang.reflect.Modifier;
import java.nio.file.DirectoryStream;
import java.nio.file.Files;
import java.nio.file.Path;
import java.util.regex.Matcher;
import java.util.regex.Pattern;

/** README.md tells how to use the class and how to run its tests: what it tells must be so, and nothing be left out. */
public final class ReadmeTest {
    private static final Pattern CALL = Pattern.compile("kept\\.(\\w+)\\(([^)]*)\\);(?:\\s*// (-?\\d+))?.*");
    private static int wrong = 0;

    private ReadmeTest() {
    }

    public static void main(String[] args) throws Exception {
        String readme = Files.readString(Path.of("README.md"));
        exampleAnswers(readme);
        everyCallIsNamed(readme);
        everyTestIsNamed(readme);
        expect(readme.contains("`.ci/run`"), "how to run the tests is not told");
        System.out.println(wrong == 0 ? "README.md tells what is so" : wrong + " faults in README.md");
        System.exit(wrong == 0 ? 0 : 1);
    }

    private static void expect(boolean holds, String fault) {
        if (!holds) {
            wrong++;
            System.out.println("README.md: " + fault);
        }
    }

    private static void exampleAnswers(String readme) throws Exception {
        Matcher block = Pattern.compile("```java\\n(.*?)```", Pattern.DOTALL).matcher(readme);
        if (!block.find()) {
            expect(false, "there is no example");
            return;
        }
        KeptSummaries kept = new KeptSummaries();
        int calls = 0;
        for (String line : block.group(1).split("\\n")) {
            if (!line.startsWith("kept.")) {
                continue;
            }
            Matcher call = CALL.matcher(line);
            if (!call.matches() || call.group(3) == null) {
                expect(false, "no call with its answer: " + line);
                continue;
            }
            calls++;
            int got = answerOf(kept, call.group(1), call.group(2));
            expect(got == Integer.parseInt(call.group(3)), "answered is " + got + " by " + line);
        }
        expect(calls > 0, "the example has no calls");
    }

    private static int answerOf(KeptSummaries kept, String name, String list) throws Exception {
        String[] words = list.isEmpty() ? new String[0] : list.split(", ");
        Object[] values = new Object[words.length];
        Class<?>[] kinds = new Class<?>[words.length];
        for (int i = 0; i < words.length; i++) {
            values[i] = Integer.decode(words[i]);
            kinds[i] = int.class;
        }
        Object answer = KeptSummaries.class.getMethod(name, kinds).invoke(kept, values);
        return answer instanceof Boolean yes ? (yes ? 1 : 0) : (Integer) answer;
    }

    private static void everyCallIsNamed(String readme) {
        for (Method method : KeptSummaries.class.getDeclaredMethods()) {
            if (Modifier.isPublic(method.getModifiers())) {
                expect(readme.contains("`" + method.getName() + "`"), "it does not name " + method.getName());
            }
        }
    }

    private static void everyTestIsNamed(String readme) throws IOException {
        try (DirectoryStream<Path> tests = Files.newDirectoryStream(Path.of("src/test/java"), "*Test.java")) {
            for (Path test : tests) {
                String name = test.getFileName().toString();
                expect(readme.contains("`src/test/java/" + name + "`"), "it does not name " + name);
            }
        }
    }
}
