import java.io.IOException;
import java.lang.reflect.Field;
import java.lang.reflect.Method;
import java.lang.reflect.Modifier;
import java.nio.file.Files;
import java.nio.file.Path;
import java.util.ArrayList;
import java.util.List;
import java.util.Set;
import java.util.regex.Matcher;
import java.util.regex.Pattern;

/** The program's text against those rules of LANGUAGE.md that can be seen without running it. */
public final class LanguageTest {
    private static final Set<String> LIBRARY = Set.of("Math.max", "Math.min", "Arrays.copyOf", "Arrays.fill", "System.arraycopy");
    private static final Pattern METHOD = Pattern.compile("(?m)^( ++)([\\w\\[\\]]+ )*\\w+\\([^()]*\\) \\{$");

    public static void main(String[] args) throws IOException {
        String text = Files.readString(Path.of("src/main/java/SplitKernel.java"))
                .replaceAll("(?s)/\\*.*?\\*/", "").replaceAll("//[^\n]*", "");
        Check.about("Rule 2");
        dueWithout(text, "->", "::", "\"");
        Check.about("Rule 4");
        libraryOnly(text);
        Check.about("Rule 5");
        dueWithout(text, "static \\{");
        finalStatics();
        Check.about("Rule 6");
        dueWithout(text, "\\bthrows?\\b", "\\btry\\b", "\\bcatch\\b", "\\bsynchronized\\b", "\\bassert\\b",
                "\\bequals\\(", "\\bhashCode\\(", "\\btoString\\(");
        Check.about("Rule 9");
        dueWithout(text, "while \\(true", "for \\(;;");
        Check.about("Rule 11");
        shortMethods(text);
        classes();
        Check.end();
    }

    private static void dueWithout(String text, String... forms) {
        for (String form : forms) {
            Matcher matcher = Pattern.compile(form).matcher(text);
            Check.due("the text has " + form, matcher.find(), false);
        }
    }

    private static void libraryOnly(String text) {
        Matcher imports = Pattern.compile("import ([^;]*);").matcher(text);
        while (imports.find()) {
            Check.due("import " + imports.group(1), imports.group(1).equals("java.util.Arrays"), true);
        }
        Set<String> own = Set.of("Domain", "SplitKernel");
        Matcher uses = Pattern.compile("\\b([A-Z]\\w*)\\.(\\w+)").matcher(text);
        while (uses.find()) {
            boolean isFine = own.contains(uses.group(1)) || LIBRARY.contains(uses.group());
            Check.due(uses.group() + " is allowed", isFine, true);
        }
    }

    /** A method ends with the first brace that stands as far in as its first line. */
    private static void shortMethods(String text) {
        int found = 0;
        Matcher method = METHOD.matcher(text);
        while (method.find()) {
            found++;
            int end = text.indexOf("\n" + method.group(1) + "}\n", method.start());
            int lines = 1 + (int) text.substring(method.start(), end + 1).lines().count();
            Check.due(method.group().strip() + " has " + lines + " lines, at most 60", lines <= 60, true);
        }
        Check.due("methods were found: " + found, found > 60, true);
    }

    private static List<Class<?>> allClasses() {
        List<Class<?>> all = new ArrayList<>(List.of(SplitKernel.class.getDeclaredClasses()));
        all.add(SplitKernel.class);
        return all;
    }

    private static void finalStatics() {
        for (Class<?> one : allClasses()) {
            for (Field f : one.getDeclaredFields()) {
                int modifiers = f.getModifiers();
                Check.due(f + " changes", Modifier.isStatic(modifiers) && !Modifier.isFinal(modifiers), false);
            }
        }
    }

    private static void classes() {
        List<Class<?>> all = allClasses();
        Check.due(all.size() + " classes, at most 12", all.size() <= 12, true);
        for (Class<?> one : all) {
            Check.due(one + " has classes inside", one != SplitKernel.class && one.getDeclaredClasses().length > 0, false);
            int fields = 0;
            for (Field f : one.getDeclaredFields()) {
                fields += Modifier.isStatic(f.getModifiers()) ? 0 : 1;
            }
            Check.due(one + " has " + fields + " fields, at most 20", fields <= 20, true);
            for (Method m : one.getDeclaredMethods()) {
                Check.due(m + " has at most 7 parameters", m.getParameterCount() <= 7, true);
            }
        }
    }
}
