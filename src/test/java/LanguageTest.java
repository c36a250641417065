import java.nio.charset.StandardCharsets;
import java.nio.file.Files;
import java.nio.file.Path;
import java.util.regex.Matcher;
import java.util.regex.Pattern;

/** What of ../shared/LANGUAGE.md can be seen in the program's text. Run from the root of the checkout. */
public final class LanguageTest {
    private static final String[] NO_WORDS = {
        "throw", "throws", "try", "catch", "finally", "synchronized", "assert", "protected", "package", "volatile", "native",
        "Object", "Exception", "Random", "Thread", "currentTimeMillis", "nanoTime", "\\w+Exact"
    };

    public static void main(String[] args) throws Exception {
        Due due = new Due("LanguageTest");
        String whole = Files.readString(Path.of("src/main/java/SteadyCompiler.java"), StandardCharsets.UTF_8);
        due.holds("characters 0 to 255 alone", whole.chars().allMatch(c -> c < 256));
        String text = whole.replaceAll("(?s)/\\*.*?\\*/", "").replaceAll("//[^\n]*", "");
        for (String word : NO_WORDS) {
            due.holds("no " + word, !Pattern.compile("\\b" + word + "\\b").matcher(text).find());
        }
        due.holds("no lambda", !text.contains("->"));
        due.holds("no method reference", !text.contains("::"));
        due.same("imports other than Arrays", text.replace("import java.util.Arrays;", "").split("\\bimport\\b", -1).length, 1);
        due.holds("public methods in the face alone", !text.substring(text.indexOf("private static final class")).contains("public"));
        due.holds("at most twelve classes", count(text, "\\bclass \\w+") <= 12);
        due.holds("while loops, whose end cannot be seen", count(text, "\\bwhile\\b") == 0);
        shortMethods(due, text);
        due.end();
    }

    private static int count(String text, String pattern) {
        Matcher m = Pattern.compile(pattern).matcher(text);
        int found = 0;
        while (m.find()) {
            found++;
        }
        return found;
    }

    private static void shortMethods(Due due, String text) {
        Matcher m = Pattern.compile("(?m)^( +)(?:\\w+ )*(\\w+)\\(([^()]*)\\) \\{$(?s:.*?)^\\1\\}$").matcher(text);
        int methods = 0;
        while (m.find()) {
            methods++;
            due.holds(m.group(2) + " has at most sixty lines", m.group().split("\n").length <= 60);
            due.holds(m.group(2) + " takes at most seven", m.group(3).split(",").length <= 7);
        }
        due.holds("methods were found: " + methods, methods > 60);
    }
}
