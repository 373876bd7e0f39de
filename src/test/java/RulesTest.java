import java.io.IOException;
import java.nio.file.Files;
import java.nio.file.Path;
import java.util.List;
import java.util.regex.Matcher;
import java.util.regex.Pattern;

/** Those rules of LANGUAGE.md that can be seen in the text of the program (its path is args[0]). */
public final class RulesTest {
    private static final String[] RULED_OUT = {
        "\\b(throw|throws|try|catch|finally|synchronized|assert|package|native|volatile)\\b",
        "->", "::", "\\bvar\\b", "@\\w+", "\\bSystem\\.(?!arraycopy\\b)", "\\bMath\\.\\w+Exact\\b",
        "\\b(Object|Map|HashMap|Set|Optional|Random|Thread|Exception|Class)\\b",
        "\\.(hashCode|toString|getClass|stream|format|split|indexOf|valueOf)\\(",
        "\\[\\]\\s*\\[\\]", "\\b(double|float)\\b", "while \\(true\\)", "for \\(;;",
    };
    private static final int MOST_LINES = 60;
    private static final int MOST_PARAMETERS = 7;
    private static int wrong;

    public static void main(String[] args) throws IOException {
        String source = Files.readString(Path.of(args[0]));
        String code = source.replaceAll("(?s)/\\*.*?\\*/", "").replaceAll("//[^\n]*", "");
        for (String pattern : RULED_OUT) {
            Matcher m = Pattern.compile(pattern).matcher(code);
            if (m.find()) {
                say("ruled out: " + m.group() + " by " + pattern);
            }
        }
        Matcher imports = Pattern.compile("import ([\\w.]+);").matcher(code);
        while (imports.find()) {
            if (!List.of("java.util.Arrays").contains(imports.group(1))) {
                say("an import: " + imports.group(1));
            }
        }
        for (int i = 0; i < source.length(); i++) {
            if (source.charAt(i) > 126) {
                say("a sign beyond 126 at " + i);
            }
        }
        methods(code.split("\n"));
        System.out.println(wrong == 0 ? "the rules are kept" : wrong + " rules are broken");
        if (wrong != 0) {
            System.exit(1);
        }
    }

    private static void methods(String[] lines) {
        Pattern head = Pattern.compile("^( {4}| {8})(?=\\w)[\\w\\[\\] ]+\\(([^)]*)\\) \\{$");
        for (int i = 0; i < lines.length; i++) {
            Matcher m = head.matcher(lines[i]);
            if (!m.matches()) {
                continue;
            }
            if (m.group(2).split(",").length > MOST_PARAMETERS) {
                say("too many parameters: " + lines[i]);
            }
            int end = i;
            while (end < lines.length && !lines[end].equals(m.group(1) + "}")) {
                end++;
            }
            if (end - i > MOST_LINES) {
                say("too long: " + lines[i]);
            }
        }
    }

    private static void say(String what) {
        wrong++;
        System.out.println(what);
    }
}
