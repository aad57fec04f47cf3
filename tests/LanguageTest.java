import java.io.IOException;
import java.nio.file.Files;
import java.nio.file.Path;
import java.util.ArrayDeque;
import java.util.ArrayList;
import java.util.Deque;
import java.util.List;
import java.util.regex.Matcher;
import java.util.regex.Pattern;

/** What of LANGUAGE.md can be seen from the text of the program, rule by rule. */
public final class LanguageTest {
    private static final Path SOURCE = Path.of("src/main/java/StillTown.java");

    private static void none(String code, String rule, String pattern) {
        Matcher m = Pattern.compile(pattern).matcher(code);
        boolean found = m.find();
        String where = found ? code.substring(m.start(), Math.min(code.length(), m.start() + 40)) : "";
        Check.due("rule " + rule + ": " + where, found, false);
    }

    /** The text without comments, with empty strings and characters. */
    private static String bare(String text) {
        return text.replaceAll("(?s)/\\*.*?\\*/", "").replaceAll("//[^\n]*", "")
            .replaceAll("\"(\\\\.|[^\"\\\\])*\"", "\"\"").replaceAll("'(\\\\.|[^'\\\\])'", "'x'");
    }

    private static void words(String code) {
        none(code, "6", "\\b(throw|throws|try|catch|finally|synchronized|assert|yield)\\b");
        none(code, "6", "\\b(equals|hashCode|toString|getClass)\\b");
        none(code, "2", "->|::");
        none(code, "13", "\\b(System\\.(?!arraycopy)\\w+|Thread|Random|Runtime|File|Math\\.random)\\b");
        none(code, "4", "\\bMath\\.(?!max\\b|min\\b|abs\\b)\\w+");
        none(code, "4", "\\bArrays\\.(?!fill\\b|copyOf\\b|copyOfRange\\b)\\w+");
        none(code, "4", "\\b(Long|Integer)\\.(?!bitCount\\b|MAX_VALUE\\b|MIN_VALUE\\b)\\w+");
        none(code, "4", "\\b(HashMap|Map|Set|HashSet|Deque|Optional|Stream|BitSet|Scanner|Objects)\\b");
        none(code, "4", "(?m)^import (?!java\\.util\\.Arrays;)");
        none(code, "1", "(?m)^package ");
        none(code, "1", "(?m)^ {4}(?!private |public |\\}|\\s)\\S");
        none(code, "1", "(?m)^ {5,}.*\\b(public|protected)\\b");
        none(code, "5", "\\bstatic (?!final\\b|int\\b|long\\b|boolean\\b|void\\b)\\w+");
        none(code, "5", "\\bstatic \\{");
        none(code, "3", "\\b(float|double|Object|var)\\b");
        none(code, "3", "\\[\\]\\[\\]\\[\\]");
        none(code, "10", "\" *\\+|\\+ *\"");
        none(code, "3", "[^\\x00-\\x7e]");
        // rows are made with the object alone, so that no run of calls can fill the room
        none(code, "12", "(?m)^ {12,}.*\\bnew\\b");
        none(code.substring(0, code.indexOf("static final class")), "12", "(?m)^ {8,}.*\\bnew\\b");
    }

    /** The lengths of bodies that open at a depth of braces. */
    private static void sizes(String code) {
        String[] lines = code.split("\n", -1);
        Deque<Integer> opened = new ArrayDeque<>();
        int classes = 0;
        List<Integer> lengths = new ArrayList<>();
        for (int i = 0; i < lines.length; i++) {
            if (lines[i].matches(".*\\b(class|enum|interface|record) \\w+.*\\{")) {
                classes++;
            }
            for (char c : lines[i].toCharArray()) {
                if (c == '{') {
                    opened.push(i);
                } else if (c == '}') {
                    int from = opened.pop();
                    if (lines[from].matches(" {4,8}[\\w\\[\\]<> ]+\\([^()]*\\) \\{")) {
                        lengths.add(i - from + 1);
                        Check.due("rule 11: lines of " + lines[from].trim(), i - from + 1 <= 60, true);
                        int commas = lines[from].replaceAll("[^,]", "").length();
                        Check.due("rule 11: parameters of " + lines[from].trim(), commas < 7, true);
                    }
                }
            }
        }
        Check.due("rule 11: twelve classes", classes <= 12, true);
        Check.due("there are methods", lengths.size() > 100, true);
    }

    private static void fields(String code) {
        for (String part : code.split("(?m)^(?=(public| {4}private static) final class )")) {
            String indent = part.startsWith("public") ? " {4}" : " {8}";
            Matcher m = Pattern.compile("(?m)^" + indent + "(private )?(final )?(int|long|boolean|[A-Z]\\w+)(\\[\\])* \\w+( =.*)?;").matcher(part);
            int count = 0;
            while (m.find()) {
                count++;
            }
            Check.due("rule 11: fields of " + part.split("\n", 2)[0].trim(), count <= 20, true);
        }
    }

    public static void main(String[] args) throws IOException {
        String text = Files.readString(SOURCE);
        String code = bare(text);
        words(code);
        sizes(code);
        fields(code);
        Check.finish("LanguageTest");
    }
}
