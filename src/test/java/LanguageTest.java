import java.io.IOException;
import java.nio.file.Files;
import java.nio.file.Path;
import java.util.List;
import java.util.Set;
import java.util.regex.Matcher;
import java.util.regex.Pattern;

/** Those rules of LANGUAGE.md that the text of the class shows; it is run from the project's folder. */
public final class LanguageTest {
    private static final Due due = new Due("LanguageTest");
    private static final List<String> NEVER = List.of(
        "throw", "throws", "try", "catch", "finally", "synchronized", "assert", "package", "volatile", "transient",
        "native", "strictfp", "equals", "hashCode", "toString", "var", "yield", "Object", "Exception", "System.out");
    private static final Set<String> CALLED = Set.of(
        "Arrays.fill", "Arrays.copyOf", "Arrays.copyOfRange", "System.arraycopy", "Math.abs", "Math.min", "Math.max",
        "Integer.bitCount", "Integer.MIN_VALUE", "Integer.MAX_VALUE", "Long.MIN_VALUE", "Long.MAX_VALUE");

    public static void main(String[] args) throws IOException {
        String text = Files.readString(Path.of("src/main/java/ToldScenes.java"));
        String code = text.replaceAll("(?s)/\\*.*?\\*/", "").replaceAll("//[^\n]*", "");
        due.part("the text");
        due.holds("no text constants, so no words are hidden in them", code.indexOf('"') < 0);
        for (String word : NEVER) {
            due.holds("no " + word, !Pattern.compile("\\b" + Pattern.quote(word) + "\\b").matcher(code).find());
        }
        due.holds("no lambda", !code.contains("->"));
        due.holds("no method reference", !code.contains("::"));
        due.holds("no annotation", code.indexOf('@') < 0);
        due.holds("plain signs", text.chars().allMatch(c -> c == '\n' || (c >= 32 && c < 127)));
        library(code);
        made(code);
        lengths(code);
        due.end();
    }

    private static void library(String code) {
        due.part("the library");
        Matcher imports = Pattern.compile("import ([^;]*);").matcher(code);
        while (imports.find()) {
            due.holds("import " + imports.group(1), imports.group(1).equals("java.util.Arrays"));
        }
        Matcher calls = Pattern.compile("\\b(Arrays|System|Math|Integer|Long|String|Character)\\.(\\w+)").matcher(code);
        while (calls.find()) {
            boolean imported = code.substring(0, calls.start()).endsWith("java.util.");
            due.holds(calls.group(), imported || CALLED.contains(calls.group()) || calls.group(2).equals("util"));
        }
    }

    /** All is made with the object itself: a call makes nothing, so that any number of them has room. */
    private static void made(String code) {
        due.part("what is made");
        for (String line : code.split("\n")) {
            if (line.contains("new ")) {
                boolean field = line.matches("\\s+(private )?final (int|long)\\[\\] \\w+ = new (int|long)\\[[A-Z_ *]+\\];");
                boolean inConstructor = code.indexOf(line) > code.indexOf("public ToldScenes() {")
                    && code.indexOf(line) < code.indexOf("public int scene(");
                due.holds(line.trim(), field || inConstructor);
            }
        }
    }

    private static void lengths(String code) {
        due.part("how long methods are");
        int begun = -1;
        String name = "";
        String[] lines = code.split("\n");
        for (int i = 0; i < lines.length; i++) {
            if (lines[i].matches("( {4}| {8})\\S.*\\) \\{") && !lines[i].matches("\\s*(if|for|while|switch|\\}).*")) {
                begun = i;
                name = lines[i].trim();
            } else if (begun >= 0 && lines[i].equals(lines[begun].replaceAll("\\S.*", "}"))) {
                due.holds(name + " has " + (i - begun + 1) + " lines", i - begun + 1 <= 60);
                begun = -1;
            }
        }
    }
}
