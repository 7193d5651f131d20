import java.lang.reflect.Field;
import java.lang.reflect.Method;
import java.lang.reflect.Modifier;
import java.nio.file.Files;
import java.nio.file.Path;
import java.util.ArrayDeque;
import java.util.Arrays;
import java.util.Deque;
import java.util.Set;
import java.util.TreeSet;
import java.util.regex.Matcher;
import java.util.regex.Pattern;

/** The rules of LANGUAGE.md that can be seen in the text of the class, or in the class as it is compiled. */
public final class LanguageTest {
    private static final String FACE = "int fact(int,int,int,int);int draws(int);int feed(int,int,int,int,int);int law(int);"
            + "int shape(int);int summary(int);int question(int);int renew(int);boolean drop(int);int coarse(int,int);"
            + "int factIs(int,int);int summaryIs(int,int);int group(int,int,int);int questionIs(int);int covers(int);"
            + "int coverIs(int,int);int way(int);int answer(int,int);int ranked(int,int);int answerBy(int,int,int);"
            + "int unlike(int);int node(int);int below(int,int);int price(int);int greedy(int,int);int best(int,int);"
            + "int madeOf(int);boolean seed(int);int keep();boolean undo();int check(int);int count(int)";
    private static int wrong = 0;

    private LanguageTest() {
    }

    public static void main(String[] args) throws Exception {
        String source = Files.readString(Path.of("src/main/java/KeptSummaries.java"));
        String code = bare(source);
        words(code);
        imports(code);
        lengths(code);
        face();
        for (Class<?> inner : KeptSummaries.class.getDeclaredClasses()) {
            members(inner);
        }
        System.out.println(wrong == 0 ? "the language is kept to" : wrong + " breaches of the language");
        System.exit(wrong == 0 ? 0 : 1);
    }

    private static void breach(String what) {
        wrong++;
        System.out.println("rule " + what);
    }

    /** The text without comments and literals, its lines kept. */
    private static String bare(String source) {
        Matcher m = Pattern.compile("//[^\\n]*|/\\*.*?\\*/|\"(\\\\.|[^\"\\\\])*\"|'(\\\\.|[^'\\\\])+'", Pattern.DOTALL)
                .matcher(source);
        return m.replaceAll(found -> found.group().replaceAll("[^\\n]", ""));
    }

    private static void words(String code) {
        String[] never = {"\\bthrow\\b", "\\bthrows\\b", "\\btry\\b", "\\bcatch\\b", "\\bfinally\\b", "\\bsynchronized\\b",
            "\\bassert\\b", "->", "::", "\\w+Exact\\b", "\\bpackage\\b", "\\bhashCode\\b", "\\bObject\\b", "\\bthread\\b",
            "\\[\\]\\s*\\[\\]\\s*\\[\\]", "\\bvar\\b", "\\bprotected\\b", "\\bSystem\\.(?!arraycopy)", "static\\s*\\{"};
        for (String word : never) {
            Matcher m = Pattern.compile(word).matcher(code);
            if (m.find()) {
                breach("4, 6: " + m.group());
            }
        }
        Matcher fields = Pattern.compile("\\bstatic\\b(?!\\s+(final|abstract))[^(;{]*[;=]").matcher(code);
        while (fields.find()) {
            breach("5: " + fields.group());
        }
    }

    private static void imports(String code) {
        Matcher m = Pattern.compile("import\\s+([\\w.*]+)").matcher(code);
        Set<String> fine = Set.of("java.util.Arrays", "java.util.ArrayList", "java.util.List", "java.util.Iterator");
        while (m.find()) {
            if (!fine.contains(m.group(1))) {
                breach("4: " + m.group());
            }
        }
    }

    private static void lengths(String code) {
        Matcher m = Pattern.compile("\\n    (?:    )?(?:[\\w\\[\\]]+ )+\\w+\\([^)]*\\) \\{").matcher(code);
        int methods = 0;
        while (m.find()) {
            methods++;
            Deque<Integer> open = new ArrayDeque<>();
            int at = m.end() - 1;
            do {
                char sign = code.charAt(at);
                if (sign == '{') {
                    open.push(at);
                } else if (sign == '}') {
                    open.pop();
                }
                at++;
            } while (!open.isEmpty());
            long lines = code.substring(m.start() + 1, at).lines().count();
            if (lines > 60) {
                breach("11: " + lines + " lines in" + m.group());
            }
        }
        if (methods < 100) {
            breach("(this test): only " + methods + " methods were found");
        }
    }

    private static void face() {
        Class<?> face = KeptSummaries.class;
        if (face.getModifiers() != (Modifier.PUBLIC | Modifier.FINAL)) {
            breach("1: the class is not public and final");
        }
        Set<String> open = new TreeSet<>();
        Set<String> names = new TreeSet<>();
        for (Method method : face.getDeclaredMethods()) {
            if (Modifier.isPublic(method.getModifiers())) {
                names.add(method.getName());
                String parameters = Arrays.toString(method.getParameterTypes()).replaceAll("[\\[\\] ]", "");
                open.add(method.getReturnType() + " " + method.getName() + "(" + parameters + ")");
            } else if (!Modifier.isPrivate(method.getModifiers())) {
                breach("1: " + method);
            }
        }
        if (!open.equals(new TreeSet<>(Arrays.asList(FACE.split(";"))))) {
            breach("1: the face is not that of the document: " + open);
        }
        for (Field field : face.getDeclaredFields()) {
            if (!Modifier.isPrivate(field.getModifiers()) && !field.getName().equals("NONE")) {
                breach("1: " + field);
            }
        }
        members(face);
        for (Class<?> inner : face.getDeclaredClasses()) {
            if (!Modifier.isStatic(inner.getModifiers())) {
                breach("2: " + inner);
            }
            for (Method method : inner.getDeclaredMethods()) {
                if (names.contains(method.getName())) {
                    breach("1: " + method);
                }
            }
        }
        if (face.getDeclaredClasses().length + 1 > 12) {
            breach("11: more than twelve classes");
        }
    }

    private static void members(Class<?> some) {
        int fields = 0;
        for (Field field : some.getDeclaredFields()) {
            boolean constant = Modifier.isStatic(field.getModifiers()) && Modifier.isFinal(field.getModifiers());
            if (Modifier.isStatic(field.getModifiers()) && !constant) {
                breach("5: " + field);
            }
            fields += constant ? 0 : 1;
        }
        if (fields > 20) {
            breach("11: " + fields + " fields in " + some);
        }
        for (Method method : some.getDeclaredMethods()) {
            if (method.getParameterCount() > 7) {
                breach("11: " + method);
            }
            if (method.isSynthetic()) {
                breach("2: " + method);
            }
        }
    }
}
