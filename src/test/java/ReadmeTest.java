import java.io.IOException;
import java.nio.file.Files;
import java.nio.file.Path;
import java.util.regex.Matcher;
import java.util.regex.Pattern;

/** README.md's examples answer what it says, the method that it gives to tell a text works, and it names every call. */
public final class ReadmeTest {
    private static final Due DUE = new Due();
    private static final Pattern BLOCK = Pattern.compile("(?s)```java\n(.*?)```");
    private static final Pattern CALL = Pattern.compile("w\\.(\\w+)\\(([^)\"]*)\\); +// (-?\\d+)\\b.*");
    private static final Pattern TOLD = Pattern.compile("tell\\(w, (\\d), \"([^\"]*)\"\\); +// (-?\\d+)\\b.*");
    private static final String MADE = "GriefWood w = new GriefWood();";
    private static final String METHOD = "static int tell(";

    private ReadmeTest() {
    }

    public static void main(String[] args) throws IOException {
        String page = Files.readString(Path.of("README.md"));
        DUE.part("README's examples");
        int examples = 0;
        Matcher block = BLOCK.matcher(page);
        while (block.find()) {
            if (block.group(1).startsWith(METHOD)) {
                sameMethod(block.group(1));
            } else {
                example(block.group(1));
            }
            examples++;
        }
        DUE.yes("there are some", examples > 1);
        DUE.part("README's calls");
        for (String name : Calls.NAMES) {
            DUE.yes(name + " is named", page.contains("`" + name + "("));
        }
        texts(page);
        DUE.close();
    }

    private static void example(String code) {
        GriefWood w = null;
        for (String line : code.split("\n")) {
            Matcher call = CALL.matcher(line);
            Matcher told = TOLD.matcher(line);
            if (line.equals(MADE)) {
                w = new GriefWood();
            } else if (w != null && told.matches()) {
                long got = tell(w, Integer.parseInt(told.group(1)), told.group(2));
                DUE.is(line, got, Long.parseLong(told.group(3)));
            } else if (w != null && call.matches()) {
                DUE.is(line, Calls.call(w, call.group(1), numbers(call.group(2))), Long.parseLong(call.group(3)));
            } else {
                DUE.yes("a line that can be run: " + line, false);
            }
        }
    }

    private static int[] numbers(String list) {
        if (list.isEmpty()) {
            return new int[0];
        }
        String[] each = list.split(", ");
        int[] n = new int[each.length];
        for (int i = 0; i < n.length; i++) {
            switch (each[i]) {
                case "true":
                    n[i] = 1;
                    break;
                case "false":
                    n[i] = 0;
                    break;
                case "GriefWood.NONE":
                    n[i] = GriefWood.NONE;
                    break;
                default:
                    n[i] = Integer.decode(each[i]);
                    break;
            }
        }
        return n;
    }

    private static void sameMethod(String code) throws IOException {
        String own = Files.readString(Path.of("src/test/java/ReadmeTest.java"));
        DUE.yes("the method that tells a text is the one tested here", spaced(own).contains(spaced(code)));
    }

    private static String spaced(String code) {
        return code.replaceAll("\\s+", " ").strip();
    }

    // README gives this method word by word.
    static int tell(GriefWood w, int k, String text) {
        for (int i = 0; i < text.length(); i += 20) {
            int[] four = new int[5];
            for (int b = 0; b < 20; b++) {
                int sign = i + b < text.length() ? text.charAt(i + b) : ' ';
                four[b / 4] = four[b / 4] << 8 | sign & 255;
            }
            w.feed(four[0], four[1], four[2], four[3], four[4]);
        }
        w.end(text.length());
        return w.text(k);
    }

    /** The table of texts has a line of each, which must be one. */
    private static void texts(String page) {
        DUE.part("README's texts");
        Matcher row = Pattern.compile("\\| (\\d) \\| [A-Z ]+ \\| `([^`]*;)`").matcher(page);
        int rows = 0;
        while (row.find()) {
            GriefWood w = new GriefWood();
            w.seeker(1, 1, 1);
            DUE.is(row.group(2), tell(w, Integer.parseInt(row.group(1)), row.group(2)), 1);
            rows++;
        }
        DUE.is("texts", rows, 4);
    }
}
