import java.io.IOException;
import java.nio.file.Files;
import java.nio.file.Path;
import java.util.regex.Matcher;
import java.util.regex.Pattern;

/** Looks in the program's text for what LANGUAGE.md rules out; its argument is the file. */
final class LanguageTest {
    private static final String[] RULED_OUT = {"\\bimport\\b", "\\bpackage\\b", "->", "::", "\\w+Exact\\(",
        "\\bfinally\\b", "\\bsynchronized\\b", "\\bassert\\b", "\\bcatch\\b", "\\bnull\\b", "\\bSystem\\.(?!arraycopy)",
        "\\bMath\\.(?!max|min|abs)", "\\b(Double|Float|Integer|Long|Character|Thread|Random)\\.", "\\bObject\\b",
        "\\bequals\\b|\\bhashCode\\b|\\btoString\\b", "\\bprotected\\b", "\\bstatic \\{"};
    private static final int MAX_METHOD = 60;

    private LanguageTest() {
    }

    public static void main(String[] args) throws IOException {
        String source = Files.readString(Path.of(args[0]));
        String code = source.replaceAll("(?s)/\\*.*?\\*/", "").replaceAll("//[^\\n]*", "");
        for (String ruledOut : RULED_OUT) {
            Matcher found = Pattern.compile(ruledOut).matcher(code);
            Check.dueText(ruledOut, found.find() ? found.group() : "", "");
        }
        for (int i = 0; i < source.length(); i++) {
            Check.due("a sign of the text", source.charAt(i) < 128 ? 0 : source.charAt(i), 0);
        }
        methods(code);
        arrays(code);
        Check.end("LanguageTest");
    }

    /** A method's end is the first brace as far in as its head. */
    private static void methods(String code) {
        Matcher m = Pattern.compile("(?m)^( {4}| {8})(?! )[^\\n;=]*\\([^;{]*\\{\\n(?s:.*?)^\\1\\}").matcher(code);
        int found = 0;
        while (m.find()) {
            found++;
            long lines = m.group().lines().count();
            Check.due("too long: " + m.group().lines().findFirst().get(), lines > MAX_METHOD ? lines : 0, 0);
        }
        Check.due("methods were found", found > 60 ? 1 : found, 1);
    }

    /** Objects and arrays are made where a class is made, never by a call. */
    private static void arrays(String code) {
        Matcher m = Pattern.compile("(?m)^.*\\bnew \\w+.*$").matcher(code);
        while (m.find()) {
            String made = m.group().trim();
            boolean fine = made.startsWith("throw new ") || made.contains("final ")
                    || made.equals("states[i] = new Poem();");
            Check.dueText("made in a call", fine ? "" : made, "");
        }
    }
}
