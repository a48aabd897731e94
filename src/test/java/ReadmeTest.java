import java.io.IOException;
import java.nio.file.Files;
import java.nio.file.Path;
import java.util.Arrays;
import java.util.LinkedHashMap;
import java.util.Map;
import java.util.regex.Matcher;
import java.util.regex.Pattern;
import java.util.stream.Collectors;

/** README.md tells the truth: its examples, its table of calls and its table of findings. */
public final class ReadmeTest {
    private static final Due due = new Due("ReadmeTest");
    private static final Pattern FINDING = Pattern.compile("\\b(BEYOND|NONE|STATE|FULL|KIND)\\b");

    public static void main(String[] args) throws IOException {
        String readme = Files.readString(Path.of("README.md"));
        String document = Files.readString(Path.of("../shared/DOC.md"));
        examples(readme);
        calls(readme, document);
        findings(readme, document);
        due.end();
    }

    private static int[] ints(String list) {
        return list.isBlank() ? new int[0] : Arrays.stream(list.split(",")).map(String::trim).mapToInt(Integer::parseInt).toArray();
    }

    private static void examples(String readme) {
        Pattern call = Pattern.compile("x\\.(\\w+)\\(([-\\d, ]*)\\); +// (-?\\d+)(: .*)?");
        Matcher block = Pattern.compile("(?s)```java\n(.*?)```").matcher(readme);
        int blocks = 0;
        while (block.find()) {
            blocks++;
            String[] lines = block.group(1).split("\n");
            due.holds("an example begins with a new hall", lines[0].equals("BeltHall x = new BeltHall();"));
            BeltHall x = new BeltHall();
            for (int i = 1; i < lines.length; i++) {
                Matcher m = call.matcher(lines[i]);
                due.holds("an example's line: " + lines[i], m.matches());
                if (m.matches()) {
                    due.is(lines[i], Face.ask(x, m.group(1), ints(m.group(2))), Integer.parseInt(m.group(3)));
                }
            }
        }
        due.is("examples", blocks, 3);
    }

    /** The findings that a text names, in its order. */
    private static String named(String text) {
        return FINDING.matcher(text).results().map(r -> r.group(1)).collect(Collectors.joining(", "));
    }

    /** Each call as "name(arguments)", with the findings that its promise names. */
    private static Map<String, String> promised(String document) {
        Map<String, String> all = new LinkedHashMap<>();
        Matcher m = Pattern.compile("(?m)^`int (\\w+\\(.*\\))`: (.*)$").matcher(document);
        while (m.find()) {
            all.put(m.group(1).replace("int ", ""), named(m.group(2)));
        }
        return all;
    }

    private static void calls(String readme, String document) {
        Map<String, String> told = new LinkedHashMap<>();
        Matcher m = Pattern.compile("(?m)^\\| `(\\w+\\([\\w, ]*\\))` \\|.*\\|([A-Z, ]*)\\|$").matcher(readme);
        while (m.find()) {
            told.put(m.group(1), m.group(2).trim());
        }
        Map<String, String> promised = promised(document);
        due.is("calls of the document", promised.size(), Face.CALLS.length);
        due.is("calls of the table", told.size(), Face.CALLS.length);
        for (Map.Entry<String, String> call : promised.entrySet()) {
            due.holds(call + ", but the table has " + told.get(call.getKey()), call.getValue().equals(told.get(call.getKey())));
        }
    }

    private static void findings(String readme, String document) {
        Matcher m = Pattern.compile("LOW - (\\d) ([A-Z]+)[,.]").matcher(document);
        int n = 0;
        while (m.find()) {
            n++;
            String row = "| " + (-1000000 - Integer.parseInt(m.group(1))) + " | " + m.group(2) + " |";
            due.holds("the table of findings has " + row, readme.contains("\n" + row));
        }
        due.is("findings of the document", n, 5);
    }
}
