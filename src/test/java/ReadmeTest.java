import java.lang.reflect.Method;
import java.nio.file.Files;
import java.nio.file.Path;
import java.util.Set;
import java.util.TreeSet;
import java.util.regex.Matcher;
import java.util.regex.Pattern;

/** The calls that README.md shows, with the answers that stand behind them. */
public final class ReadmeTest {
    private static final Check CHECK = new Check("ReadmeTest");
    private static final Pattern TYPED = Pattern.compile("    for \\(char c : \"(.*)\"\\.toCharArray\\(\\)\\) \\{");
    private static final Pattern CALL = Pattern.compile("    x\\.(\\w+)\\((.*?)\\);\\s+// (-?\\d+)\\b.*");

    public static void main(String[] args) throws Exception {
        if (args.length < 2) {
            throw new IllegalArgumentException("the second argument is the path of README.md");
        }
        ChannelTracks x = new ChannelTracks();
        Set<String> shown = new TreeSet<>(Set.of("letter"));
        for (String line : Files.readAllLines(Path.of(args[1]))) {
            Matcher typed = TYPED.matcher(line);
            Matcher call = CALL.matcher(line);
            if (line.equals("    ChannelTracks x = new ChannelTracks();")) {
                x = new ChannelTracks();
            } else if (typed.matches()) {
                Check.type(x, typed.group(1));
            } else if (call.matches()) {
                CHECK.is(line.trim(), answer(x, call.group(1), call.group(2)), Long.parseLong(call.group(3)));
                shown.add(call.group(1));
            } else {
                CHECK.that("no answer behind " + line, !line.startsWith("    x."));
            }
        }
        CHECK.that("README.md shows too few methods: " + shown, shown.size() >= 20);
        CHECK.finish();
    }

    private static long answer(ChannelTracks x, String name, String arguments) throws Exception {
        String[] given = arguments.isEmpty() ? new String[0] : arguments.split(", ");
        for (Method m : ChannelTracks.class.getMethods()) {
            if (m.getName().equals(name) && m.getParameterCount() == given.length) {
                Object[] values = new Object[given.length];
                for (int i = 0; i < given.length; i++) {
                    boolean flag = m.getParameterTypes()[i] == boolean.class;
                    values[i] = flag ? (Object) Boolean.valueOf(given[i]) : Integer.valueOf(given[i]);
                }
                return ((Number) m.invoke(x, values)).longValue();
            }
        }
        throw new IllegalArgumentException("no method " + name + "(" + arguments + ")");
    }
}
