import java.io.IOException;
import java.nio.file.Files;
import java.nio.file.Path;
import java.util.regex.Matcher;
import java.util.regex.Pattern;

/** What of LANGUAGE.md can be read off the text of the program. */
public final class LanguageTest {
    private static final String[] NEVER = {
        "\\bthrow\\b", "\\bthrows\\b", "\\btry\\b", "\\bcatch\\b", "\\bsynchronized\\b", "\\bassert\\b",
        "->", "::", "^package\\b", "\\bObject\\b", "\\bSystem\\.(?!arraycopy)", "Exact\\b", "\\bRandom\\b",
        "\\bThread\\b", "\\bhashCode\\b", "\\btoString\\b", "\\bdouble\\b", "\\bfloat\\b",
        "\\bstatic\\s*\\{", "\\bwhile\\s*\\(true\\)", "for\\s*\\(;;\\)", "\\bprotected\\b",
        "\\[\\]\\s*\\[\\]\\s*\\[\\]",
    };

    public static void main(String[] args) throws IOException {
        Check check = new Check("LanguageTest");
        String text = Files.readString(Path.of("src/main/java/DragonJars.java"));
        for (int i = 0; i < text.length(); i++) {
            if (text.charAt(i) > 127) {
                check.dueTrue("sign " + i + " is plain", false);
            }
        }
        String code = text.replaceAll("(?s)/\\*.*?\\*/", "").replaceAll("//[^\n]*", "");
        for (String never : NEVER) {
            Matcher found = Pattern.compile(never, Pattern.MULTILINE).matcher(code);
            check.dueTrue("the program is without " + never, !found.find());
        }
        Matcher imports = Pattern.compile("^import\\s+([\\w.]+);", Pattern.MULTILINE).matcher(code);
        while (imports.find()) {
            check.dueTrue(imports.group(1) + " may be used",
                imports.group(1).matches("java\\.util\\.(Arrays|ArrayList|List|Iterator)"));
        }
        methodsAreShort(check, code);
        check.finish();
    }

    private static void methodsAreShort(Check check, String code) {
        Pattern head = Pattern.compile("^ {4,8}(?:[\\w\\[\\]]+ )*[\\w\\[\\]]+ ?(\\w+)\\(([^)]*)\\) \\{\\s*$");
        String[] lines = code.split("\n");
        int methods = 0;
        for (int i = 0; i < lines.length; i++) {
            Matcher found = head.matcher(lines[i]);
            if (found.find()) {
                methods++;
                String indent = lines[i].substring(0, lines[i].indexOf(lines[i].trim()));
                int end = i;
                while (end < lines.length && !lines[end].equals(indent + "}")) {
                    end++;
                }
                check.dueTrue(lines[i].trim() + " is short", end - i < 60);
                check.dueTrue(lines[i].trim() + " takes seven at most",
                    found.group(2).split(",").length <= 7);
            }
        }
        check.dueTrue("methods were found", methods > 39);
    }
}
