import java.io.IOException;
import java.lang.reflect.Method;
import java.nio.file.Files;
import java.nio.file.Path;
import java.util.HashMap;
import java.util.List;
import java.util.Map;
import java.util.regex.Matcher;
import java.util.regex.Pattern;
import java.util.stream.Stream;

/** The lines of Java in README.md answer what stands behind them, and README.md names every test and call. */
public final class ReadmeTest {
    private static final Check check = new Check();
    private static final Pattern BLOCK = Pattern.compile("(?s)```java\n(.*?)```");
    private static final Pattern CALL = Pattern.compile("(?:int (\\w+) = )?x\\.(\\w+)\\((.*?)\\); +// (\\w+)(?:: .*)?");

    private final Map<String, Integer> names = new HashMap<>(Map.of("RoadCounts.NONE", RoadCounts.NONE));
    private RoadCounts x;

    public static void main(String[] args) throws Exception {
        String readme = Files.readString(Path.of("README.md"));
        ReadmeTest test = new ReadmeTest();
        Matcher blocks = BLOCK.matcher(readme);
        while (blocks.find()) {
            for (String line : blocks.group(1).split("\n")) {
                test.run(line);
            }
        }
        namesAll(readme);
        check.end("ReadmeTest");
    }

    private void run(String line) throws Exception {
        if (line.equals("RoadCounts x = new RoadCounts();")) {
            x = new RoadCounts();
            return;
        }
        Matcher m = CALL.matcher(line);
        boolean isCall = m.matches();
        check.due("a call of x is '" + line + "'", isCall && x != null, true);
        if (isCall && x != null) {
            Object got = call(m.group(2), m.group(3));
            check.due(line + " answered " + got, got.toString().equals(m.group(4)), true);
            if (m.group(1) != null) {
                names.put(m.group(1), (Integer) got);
            }
        }
    }

    private Object call(String name, String list) throws Exception {
        List<String> words = list.isEmpty() ? List.of() : List.of(list.split(", "));
        Object[] values = new Object[words.size()];
        Class<?>[] types = new Class<?>[words.size()];
        for (int i = 0; i < values.length; i++) {
            Integer named = names.get(words.get(i));
            values[i] = named != null ? named : (Object) Long.decode(words.get(i)).intValue();
            types[i] = int.class;
        }
        return RoadCounts.class.getMethod(name, types).invoke(x, values);
    }

    private static void namesAll(String readme) throws IOException {
        for (Method m : RoadCounts.class.getDeclaredMethods()) {
            if (java.lang.reflect.Modifier.isPublic(m.getModifiers())) {
                check.due("README.md names " + m.getName(), readme.contains("`" + m.getName() + "`"), true);
            }
        }
        try (Stream<Path> files = Files.list(Path.of("src/test/java"))) {
            for (Path file : files.toList()) {
                String name = file.getFileName().toString().replace(".java", "");
                boolean isTest = Files.readString(file).contains("void main(");
                check.due("README.md names " + name, !isTest || readme.contains("`" + name + "`"), true);
            }
        }
    }
}
