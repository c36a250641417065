import java.lang.reflect.Field;
import java.lang.reflect.Method;
import java.lang.reflect.Modifier;
import java.nio.charset.StandardCharsets;
import java.nio.file.DirectoryStream;
import java.nio.file.Files;
import java.nio.file.Path;
import java.util.regex.Matcher;
import java.util.regex.Pattern;

/** What README.md tells a caller is so. Run from the root of the checkout. */
public final class ReadmeTest {
    private static final Pattern CALL = Pattern.compile("x\\.(\\w+)\\(([^()]*)\\);");
    private static final Pattern ANSWER = Pattern.compile("// (-?\\d+|[A-Z]+)\\b");

    public static void main(String[] args) throws Exception {
        Due due = new Due("ReadmeTest");
        String readme = Files.readString(Path.of("README.md"), StandardCharsets.UTF_8);
        example(due, readme);
        constants(due, readme);
        calls(due, readme);
        tests(due, readme);
        due.end();
    }

    private static void example(Due due, String readme) throws Exception {
        due.sentence("An example, with what each line's last call answers");
        SteadyCompiler x = new SteadyCompiler();
        int begin = readme.indexOf("```java\n");
        String[] lines = readme.substring(begin, readme.indexOf("```\n", begin)).split("\n");
        due.holds("it begins with the object", lines[1].equals("SteadyCompiler x = new SteadyCompiler();"));
        for (int i = 2; i < lines.length; i++) {
            Matcher call = CALL.matcher(lines[i]);
            Matcher answer = ANSWER.matcher(lines[i]);
            long got = 0;
            boolean called = false;
            while (call.find()) {
                got = answerOf(x, call.group(1), call.group(2));
                called = true;
            }
            due.holds("a call and its answer: " + lines[i], called && answer.find());
            due.same(lines[i], got, valueOf(answer.group(1)));
        }
    }

    private static long answerOf(SteadyCompiler x, String name, String words) throws Exception {
        String[] given = words.isEmpty() ? new String[0] : words.split(", ");
        for (Method m : SteadyCompiler.class.getMethods()) {
            if (m.getName().equals(name) && m.getParameterCount() == given.length) {
                Object[] values = new Object[given.length];
                for (int i = 0; i < given.length; i++) {
                    boolean isFlag = m.getParameterTypes()[i] == boolean.class;
                    values[i] = isFlag ? (Object) Boolean.valueOf(given[i]) : (Object) Integer.valueOf(given[i]);
                }
                return ((Number) m.invoke(x, values)).longValue();
            }
        }
        throw new IllegalArgumentException("no such call: " + name + "(" + words + ")");
    }

    private static long valueOf(String answer) throws Exception {
        boolean isName = Character.isUpperCase(answer.charAt(0));
        return isName ? SteadyCompiler.class.getField(answer).getInt(null) : Long.parseLong(answer);
    }

    private static void constants(Due due, String readme) throws Exception {
        due.sentence("constant | value");
        for (Field f : SteadyCompiler.class.getFields()) {
            String row = "| `" + f.getName() + "` | " + f.getInt(null) + " |";
            due.holds(row, readme.contains(row));
        }
    }

    private static void calls(Due due, String readme) {
        due.sentence("call | answer");
        for (Method m : SteadyCompiler.class.getDeclaredMethods()) {
            if (Modifier.isPublic(m.getModifiers())) {
                String row = "(?m)^\\|.*`" + m.getName() + "\\(([^()]*)\\)`.*\\|$";
                Matcher found = Pattern.compile(row).matcher(readme);
                due.holds(m.getName() + " has a row", found.find());
                String words = found.group(1);
                due.same(m.getName() + " takes so many", words.isEmpty() ? 0 : words.split(", ").length, m.getParameterCount());
            }
        }
    }

    private static void tests(Due due, String readme) throws Exception {
        due.sentence("test | what it is about");
        try (DirectoryStream<Path> files = Files.newDirectoryStream(Path.of("src/test/java"), "*Test.java")) {
            for (Path file : files) {
                String name = file.getFileName().toString().replace(".java", "");
                due.holds(name + " has a row", readme.contains("\n| " + name + " |"));
            }
        }
        Matcher row = Pattern.compile("(?m)^\\| (\\w+Test) \\|").matcher(readme);
        while (row.find()) {
            due.holds(row.group(1) + " is there", Files.exists(Path.of("src/test/java", row.group(1) + ".java")));
        }
    }
}
