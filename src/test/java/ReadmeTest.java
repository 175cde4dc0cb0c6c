import java.io.IOException;
import java.lang.reflect.Method;
import java.lang.reflect.Modifier;
import java.nio.file.Files;
import java.nio.file.Path;
import java.util.regex.Matcher;
import java.util.regex.Pattern;

/** README.md's calls answer what stands behind them; .ci/run starts this in the project's folder. */
final class ReadmeTest {
    private static final Checks CHECKS = new Checks();
    private static final Pattern CALL =
            Pattern.compile("^    groups\\.(\\w+)\\(([-0-9, ]*)\\); +// (-?\\d+)", Pattern.MULTILINE);

    public static void main(String[] args) throws IOException, ReflectiveOperationException {
        String text = Files.readString(Path.of("README.md"));
        everyCall(text);
        everyName(text);
        CHECKS.end();
    }

    private static void everyCall(String text) throws ReflectiveOperationException {
        CHECKS.begin("README.md, the calls");
        WallpaperGroups groups = new WallpaperGroups();
        int calls = 0;
        for (Matcher call = CALL.matcher(text); call.find(); calls++) {
            long got = answer(groups, call.group(1), call.group(2).trim());
            CHECKS.due(call.group(1) + "(" + call.group(2) + ")", got, Long.parseLong(call.group(3)));
        }
        CHECKS.due("lines with a call", calls, text.split("\n    groups\\.", -1).length - 1);
        CHECKS.holds("there are some", calls > 5);
    }

    private static long answer(WallpaperGroups groups, String name, String list) throws ReflectiveOperationException {
        String[] texts = list.isEmpty() ? new String[0] : list.split(", *");
        Class<?>[] types = new Class<?>[texts.length];
        Object[] values = new Object[texts.length];
        for (int i = 0; i < texts.length; i++) {
            types[i] = int.class;
            values[i] = Integer.valueOf(texts[i]);
        }
        Method method = WallpaperGroups.class.getMethod(name, types);
        return ((Number) method.invoke(groups, values)).longValue();
    }

    private static void everyName(String text) {
        CHECKS.begin("README.md, the names");
        for (Method method : WallpaperGroups.class.getDeclaredMethods()) {
            if (Modifier.isPublic(method.getModifiers())) {
                CHECKS.holds(method.getName() + " is told of",
                        Pattern.compile("`" + method.getName() + "[`(]").matcher(text).find());
            }
        }
    }
}
