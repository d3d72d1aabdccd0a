import java.io.IOException;
import java.lang.reflect.Method;
import java.nio.file.DirectoryStream;
import java.nio.file.Files;
import java.nio.file.Path;
import java.util.List;
import java.util.regex.Matcher;
import java.util.regex.Pattern;

/** README.md: its examples answer what it says, and it names every call and every test. */
public final class ReadmeTest {
    private static final Pattern EXAMPLE = Pattern.compile("x\\.(\\w+)\\(([^)]*)\\);\\s*// ([-\\w]+).*");

    public static void main(String[] args) throws IOException {
        Path readme = Path.of("README.md");
        examples(Files.readAllLines(readme));
        String text = Files.readString(readme);
        calls(text);
        tests(text);
        Check.finish();
    }

    /** Each block of code makes an object of its own; behind each call stands its answer. */
    private static void examples(List<String> lines) {
        PressSheets x = null;
        int run = 0;
        boolean inCode = false;
        for (String line : lines) {
            if (line.startsWith("```")) {
                inCode = line.equals("```java");
                x = null;
            } else if (inCode && line.equals("PressSheets x = new PressSheets();")) {
                x = new PressSheets();
            } else if (inCode) {
                run++;
                Check.holds("README runs: " + line, x != null && runExample(x, line));
            }
        }
        Check.holds("README has examples", run > 50);
    }

    private static boolean runExample(PressSheets x, String line) {
        Matcher parts = EXAMPLE.matcher(line);
        if (!parts.matches()) {
            return false;
        }
        String[] words = parts.group(2).isEmpty() ? new String[0] : parts.group(2).split(", ");
        int[] numbers = new int[words.length];
        for (int i = 0; i < words.length; i++) {
            numbers[i] = number(words[i]);
        }
        Check.due("README: " + line, Call.of(parts.group(1), numbers).on(x), number(parts.group(3)));
        return true;
    }

    private static int number(String word) {
        switch (word) {
            case "true": return 1;
            case "false": return 0;
            case "NONE": return Check.NONE;
            case "UNKNOWN": return Check.UNKNOWN;
            case "OUTSIDE": return Check.OUTSIDE;
            case "STATE": return Check.STATE;
            default: return Integer.parseInt(word);
        }
    }

    private static void calls(String text) {
        for (Method m : PressSheets.class.getDeclaredMethods()) {
            if (java.lang.reflect.Modifier.isPublic(m.getModifiers())) {
                int commas = Math.max(0, m.getParameterCount() - 1);
                String numbers = m.getParameterCount() == 0 ? "" : "[^,)]+(, [^,)]+){" + commas + "}";
                Matcher row = Pattern.compile("(?m)^\\| `" + m.getName() + "\\(" + numbers + "\\)` \\|").matcher(text);
                Check.holds("README tells of " + m.getName() + " once", row.find() && !row.find());
            }
        }
    }

    private static void tests(String text) throws IOException {
        int found = 0;
        try (DirectoryStream<Path> files = Files.newDirectoryStream(Path.of("src/test/java"), "*.java")) {
            for (Path file : files) {
                String name = file.getFileName().toString().replace(".java", "");
                Check.holds("README names " + name, text.contains("`" + name + "`"));
                found++;
            }
        }
        Check.holds("files were found", found > 0);
        Matcher named = Pattern.compile("`(\\w+Test)`").matcher(text);
        while (named.find()) {
            Check.holds(named.group(1) + " is there", Files.exists(Path.of("src/test/java", named.group(1) + ".java")));
        }
    }
}
