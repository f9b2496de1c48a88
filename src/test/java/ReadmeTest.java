import java.io.IOException;
import java.lang.reflect.Method;
import java.nio.file.Files;
import java.nio.file.Path;
import java.util.List;
import java.util.regex.Matcher;
import java.util.regex.Pattern;

/** The calls of README.md, all on one object, answer what stands behind them; each call is named. */
public final class ReadmeTest {
    private static final Pattern CALL = Pattern.compile("town\\.(\\w+\\(.*?\\)); +// (-?\\w+)(:.*)?");

    public static void main(String[] args) throws IOException {
        String readme = Files.readString(Path.of("README.md"));
        TownLamps town = new TownLamps();
        int calls = 0;
        for (String line : readme.lines().filter(l -> l.startsWith("town.")).toList()) {
            Matcher m = CALL.matcher(line);
            Due.holds("a call and its answer: " + line, m.matches());
            if (m.matches()) {
                Due.is(m.group(1), Calls.make(town, m.group(1)), answer(m.group(2)));
                calls++;
            }
        }
        Due.holds("README.md shows calls", calls > 20);
        for (Method m : Calls.all()) {
            Due.holds("README.md names " + m.getName(), readme.contains("`" + m.getName() + "`"));
        }
        Due.end();
    }

    private static int answer(String word) {
        List<String> names = List.of("BAD", "NO", "FULL", "NONE", "NOTHING", "KIND", "INDEX", "SIZE");
        int[] constants = {TownLamps.BAD, TownLamps.NO, TownLamps.FULL, TownLamps.NONE, TownLamps.NOTHING, TownLamps.KIND, TownLamps.INDEX, TownLamps.SIZE};
        return names.contains(word) ? constants[names.indexOf(word)] : Integer.parseInt(word);
    }
}
