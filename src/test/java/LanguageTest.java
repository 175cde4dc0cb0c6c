import java.io.IOException;
import java.nio.file.Files;
import java.nio.file.Path;
import java.util.regex.Matcher;
import java.util.regex.Pattern;

/** What LANGUAGE.md rules out does not stand in the class; .ci/run starts this in the project's folder. */
final class LanguageTest {
    private static final Checks CHECKS = new Checks();
    private static final String[] RULED_OUT = {
        "\\bthrow\\b", "\\bthrows\\b", "\\btry\\b", "\\bcatch\\b", "\\bfinally\\b", "\\bsynchronized\\b",
        "\\bassert\\b", "\\binstanceof\\b", "\\bimport\\b", "\\bpackage\\b", "\\bvolatile\\b", "\\bnative\\b",
        "->", "::", "@", "\"", "\\bprotected\\b", "\\bvar\\b", "static\\s*\\{", "\\bSystem\\b", "Exact\\b",
        "\\bdouble\\b", "\\bfloat\\b", "\\bfinalize\\b", "\\bhashCode\\b", "\\bequals\\b", "\\btoString\\b"};

    public static void main(String[] args) throws IOException {
        CHECKS.begin("LANGUAGE.md");
        String source = Files.readString(Path.of("src/main/java/WallpaperGroups.java"));
        String code = source.replaceAll("(?s)/\\*.*?\\*/", "").replaceAll("//[^\n]*", "");
        for (String pattern : RULED_OUT) {
            CHECKS.holds("there is no " + pattern, !Pattern.compile(pattern).matcher(code).find());
        }
        newOnlyInFields(code);
        staticFields(code);
        CHECKS.due("signs beyond 127", source.chars().filter(sign -> sign > 127).count(), 0);
        CHECKS.end();
    }

    /** So no call makes an object or an array. */
    private static void newOnlyInFields(String code) {
        for (String line : code.split("\n")) {
            if (Pattern.compile("\\bnew\\b").matcher(line).find()) {
                CHECKS.holds("made in a field: " + line.trim(), line.trim().startsWith("private final "));
            }
        }
    }

    private static void staticFields(String code) {
        Matcher fields = Pattern.compile("[^\n]*\\bstatic\\b[^(\n]*(;|=)").matcher(code);
        while (fields.find()) {
            CHECKS.holds("final: " + fields.group().trim(), fields.group().contains("static final "));
        }
    }
}
