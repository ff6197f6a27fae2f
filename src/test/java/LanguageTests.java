import java.nio.file.Files;
import java.nio.file.Path;
import java.util.List;
import java.util.regex.Matcher;
import java.util.regex.Pattern;

/** Words of the source that LANGUAGE.md rules out, and the sizes that it asks for. */
public final class LanguageTests {
    private static final Path SOURCE = Path.of("src", "main", "java", "BuskPitches.java");
    private static final String[] RULED_OUT = {
        "\\b(Float|Double|Character|Boolean|Byte|Short|Objects|Collections|Optional|Thread|Random)\\.",
        "\\bSystem\\.(?!arraycopy\\b)", "\\bArrays\\.(?!(copyOf|copyOfRange|fill)\\b)", "Exact\\(",
        "\\b(catch|try|finally|synchronized|assert|static\\s*\\{|native|volatile|transient|package|yield|var)\\b",
        "->", "::", "\\bMath\\.\\w+\\([^)]*[fd.]\\d", "\"\\s*\\+", "\\+\\s*\"", "@\\w+",
        "\\b(equals|hashCode|toString)\\s*\\(\\s*\\)", "\\bstatic final (float|double|short|byte)\\b",
        "\\b(float|double)\\[\\]\\[\\]\\[", "\\bstatic (?!final\\b)[\\w\\[\\]]+ \\w+( =|;)"};
    private static final int MOST_LINES_OF_METHOD = 60;
    private static final int MOST_CLASSES = 12;
    private static final int MOST_PARAMETERS = 7;

    public static void main(String[] args) throws Exception {
        List<String> lines = Files.readAllLines(SOURCE);
        checkWords(lines);
        checkMethods(lines);
        long classes = lines.stream().filter(line -> line.matches(".*\\b(class|enum|interface|record) \\w+.*\\{")).count();
        Check.isTrue("few classes", classes <= MOST_CLASSES);
        Check.end("LanguageTests");
    }

    private static void checkWords(List<String> lines) {
        for (String ruledOut : RULED_OUT) {
            Pattern pattern = Pattern.compile(ruledOut);
            for (int k = 0; k < lines.size(); k++) {
                String code = lines.get(k).replaceAll("//.*|^\\s*/?\\*.*", "");
                Matcher matcher = pattern.matcher(code);
                Check.isTrue("line " + (k + 1) + " without " + ruledOut, !matcher.find());
            }
        }
        for (String line : lines) {
            Check.isTrue("plain signs in " + line, line.chars().allMatch(sign -> sign >= 1 && sign <= 127));
        }
    }

    /** A method of a class begins behind 4 or 8 blanks and ends with a brace behind as many. */
    private static void checkMethods(List<String> lines) {
        Pattern head = Pattern.compile("^( {4}| {8})(?! )(?!.*\\bclass\\b)[\\w\\[\\] ]*\\((.*)\\).*\\{$");
        for (int k = 0; k < lines.size(); k++) {
            Matcher matcher = head.matcher(lines.get(k));
            if (!matcher.matches()) {
                continue;
            }
            int end = k;
            while (!lines.get(end).equals(matcher.group(1) + "}")) {
                end++;
            }
            String name = lines.get(k).trim();
            Check.isTrue(name + " is short", end - k < MOST_LINES_OF_METHOD);
            Check.isTrue(name + " takes few", matcher.group(2).split(",").length <= MOST_PARAMETERS);
        }
    }
}
