import java.io.IOException;
import java.nio.file.Files;
import java.nio.file.Path;
import java.util.HashSet;
import java.util.List;
import java.util.Map;
import java.util.Set;
import java.util.regex.Matcher;
import java.util.regex.Pattern;

/** The calls of the README's example, told one a line, answer what stands behind them. */
public final class ReadmeTest {
    private static final Pattern LINE = Pattern.compile("land\\.(\\w+)\\((.*)\\); *// (-?\\d+|[A-Z]+)(:.*)?");
    private static final Map<String, Integer> WORDS = Map.of("NONE", Due.NONE, "UNKNOWN", Due.UNKNOWN, "OUTSIDE", Due.OUTSIDE,
        "NOT", Due.NOT, "FULL", Due.FULL, "LARGE", Due.LARGE);

    public static void main(String[] args) throws IOException {
        HillLand land = new HillLand();
        int calls = 0;
        for (String line : Files.readAllLines(Path.of("README.md"))) {
            if (!line.startsWith("land.")) continue;
            answers(land, line);
            calls++;
        }
        Due.is("the README has an example", calls > 20 ? 1 : 0, 1);
        refusals();
        Due.end();
    }

    private static void answers(HillLand land, String line) {
        Matcher parts = LINE.matcher(line);
        if (!parts.matches()) {
            Due.is("can be read: " + line, 0, 1);
            return;
        }
        String[] told = parts.group(2).isEmpty() ? new String[0] : parts.group(2).split(", ");
        long[] numbers = new long[told.length];
        for (int i = 0; i < told.length; i++) numbers[i] = number(told[i]);
        Due.is("README: " + line, new Call(parts.group(1), numbers).on(land), number(parts.group(3)));
    }

    private static long number(String told) {
        String word = told.replace("HillLand.", "");
        if (WORDS.containsKey(word)) return WORDS.get(word);
        if (told.equals("true")) return 1;
        if (told.startsWith("'")) return told.charAt(1);
        if (told.startsWith("0x")) return Long.parseLong(told.substring(2, told.length() - 1), 16);
        return Long.parseLong(told);
    }

    /** The table of refusals names each with its number. */
    private static void refusals() throws IOException {
        Set<String> rows = new HashSet<>();
        Pattern row = Pattern.compile("\\| `([A-Z]+)` \\| (-\\d+) \\|.*");
        for (String line : Files.readAllLines(Path.of("README.md"))) {
            Matcher parts = row.matcher(line);
            if (parts.matches()) rows.add(parts.group(1) + parts.group(2));
        }
        for (String word : List.of("UNKNOWN", "OUTSIDE", "NOT", "FULL", "LARGE")) {
            Due.is("README names " + word, rows.contains(word + WORDS.get(word)) ? 1 : 0, 1);
        }
    }
}
