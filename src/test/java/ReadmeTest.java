import java.io.IOException;
import java.nio.file.Files;
import java.nio.file.Path;
import java.util.Arrays;
import java.util.List;
import java.util.TreeSet;
import java.util.regex.Matcher;
import java.util.regex.Pattern;

/** The calls that README.md shows, each with the answer that it says, and that it names every call of the document. */
public final class ReadmeTest {
    private static final Pattern CALL = Pattern.compile("x\\.(\\w+)\\((.*?)\\);\\s*// (-?\\d+): .*");
    private static final Pattern TEXT = Pattern.compile("say\\(x, \"(.*)\"\\);");

    private ReadmeTest() { }

    public static void main(String[] args) throws IOException {
        Checks checks = new Checks("ReadmeTest");
        String page = Files.readString(Path.of("README.md"));
        Matcher blocks = Pattern.compile("(?s)```java\n(.*?)```").matcher(page);
        int found = 0;
        while (blocks.find()) {
            tell(checks, blocks.group(1));
            found++;
        }
        checks.due("blocks of calls", 3, found);
        TreeSet<String> missing = new TreeSet<>(Arrays.asList(Calls.NAMES));
        missing.removeIf(name -> page.contains("`" + name + "`"));
        checks.due("calls that the page does not name, " + missing, 0, missing.size());
        checks.finish();
    }

    private static void tell(Checks checks, String block) {
        List<String> names = Arrays.asList(Calls.NAMES);
        BoyBishop x = null;
        for (String line : block.split("\n")) {
            Matcher call = CALL.matcher(line);
            Matcher text = TEXT.matcher(line);
            if (line.equals("BoyBishop x = new BoyBishop();")) {
                x = new BoyBishop();
            } else if (text.matches()) {
                Checks.say(x, text.group(1));
            } else if (call.matches() && names.contains(call.group(1))) {
                int[] arguments = Arrays.stream(call.group(2).split(", *")).filter(a -> !a.isEmpty())
                    .mapToInt(Integer::decode).toArray();
                checks.due(line, Integer.parseInt(call.group(3)), Calls.of(x, names.indexOf(call.group(1)), arguments));
            } else {
                throw new IllegalStateException("a line that is not understood: " + line);
            }
        }
    }
}
