import java.nio.charset.StandardCharsets;
import java.nio.file.Files;
import java.nio.file.Paths;
import java.util.regex.Matcher;
import java.util.regex.Pattern;

/** What of LANGUAGE.md can be seen in the text of the program. */
public final class RulesTest {
    private static final String[] FORBIDDEN = {
        "->", "::", "\\bfinally\\b", "\\btry\\b", "\\bcatch\\b", "\\bsynchronized\\b", "\\bassert\\b", "\\bpackage\\b",
        "\\bprotected\\b", "\\bnew Random\\b", "\\bThread\\b", "Exact\\b", "\\bhashCode\\b", "\\btoString\\b",
        "\\bgetMessage\\b", "\\bsuper\\b", "\\bnative\\b", "\\bvolatile\\b", "System\\.(?!arraycopy)", "static \\{",
        "Object\\b", "\\bvar\\b", "for \\(;", "while \\(true",
    };

    public static void main(String[] args) throws Exception {
        String path = System.getProperty("program", "src/main/java/PacketScheduler.java");
        String source = new String(Files.readAllBytes(Paths.get(path)), StandardCharsets.ISO_8859_1);
        for (int i = 0; i < source.length(); i++) {
            if (source.charAt(i) > 126 || source.charAt(i) == '\t') {
                Check.due("the sign at " + i, (int) source.charAt(i), "a plain one");
            }
        }
        String code = source.replaceAll("(?s)/\\*.*?\\*/", "").replaceAll("//[^\n]*", "")
                .replaceAll("\"[^\"\n]*\"", "\"\"");
        for (String word : FORBIDDEN) {
            Matcher matcher = Pattern.compile(word).matcher(code);
            Check.due(word, matcher.find() ? "found at " + matcher.start() : "none", "none");
        }
        imports(code);
        throwsOf(source);
        staticFields(code);
        methods(code);
        Check.end("RulesTest");
    }

    private static void imports(String code) {
        Matcher matcher = Pattern.compile("import ([^;]*);").matcher(code);
        while (matcher.find()) {
            Check.due("import", matcher.group(1), "java.util.NoSuchElementException");
        }
    }

    private static void throwsOf(String source) {
        Matcher matcher = Pattern.compile("throw [^\n]*").matcher(source);
        String form = "throw new (IllegalArgumentException|NoSuchElementException)\\(\"[a-z ]*\"\\);";
        while (matcher.find()) {
            Check.due(matcher.group(), matcher.group().matches(form), true);
        }
    }

    private static void staticFields(String code) {
        Matcher matcher = Pattern.compile("(?m)^ *(private |public )?static [^(\n]*=[^\n]*").matcher(code);
        while (matcher.find()) {
            Check.due(matcher.group(), matcher.group().contains("static final int "), true);
        }
    }

    /** A method begins at its own indentation and ends with a brace at the same one. */
    private static void methods(String code) {
        Matcher matcher = Pattern.compile("(?m)^( {4}| {8})(?!private static final class)([^ \n][^\n;={]*)\\(([^)]*)\\)"
                + "[^\n;]*\\{\n((?:(?!\\1\\})[^\n]*\n)*)\\1\\}").matcher(code);
        int found = 0;
        while (matcher.find()) {
            found++;
            int lines = matcher.group(4).split("\n").length;
            int parameters = matcher.group(3).isEmpty() ? 0 : matcher.group(3).split(",").length;
            Check.due(matcher.group(2) + " has " + lines + " lines", lines <= 60, true);
            Check.due(matcher.group(2) + " has " + parameters + " parameters", parameters <= 7, true);
        }
        Check.due("methods were found", found > 80, true);
        int classes = code.split("\\bclass ").length - 1;
        Check.due("classes: " + classes, classes <= 12, true);
    }
}
