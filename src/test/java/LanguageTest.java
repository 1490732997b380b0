import java.lang.reflect.Field;
import java.lang.reflect.Method;
import java.lang.reflect.Modifier;
import java.nio.charset.StandardCharsets;
import java.nio.file.Files;
import java.nio.file.Path;
import java.util.ArrayList;
import java.util.List;
import java.util.regex.Matcher;
import java.util.regex.Pattern;

/** The rules of LANGUAGE.md that can be seen from the source's text, or from the classes. It is run from the project's folder. */
public final class LanguageTest {
    private static final Due DUE = new Due();

    public static void main(String[] arguments) throws Exception {
        String source = Files.readString(Path.of("src/main/java/GrowingBook.java"), StandardCharsets.UTF_8);
        String code = source.replaceAll("(?s)/\\*.*?\\*/|//[^\\n]*", "").replaceAll("'[^']*'", "' '");
        DUE.is("signs above 126", source.chars().filter(sign -> sign > 126).count(), 0);
        none(code, "\\b(throw|throws|try|catch|finally|synchronized|assert|package)\\b", "6");
        none(code.replaceAll("\\b(case [^;{}:]*?|default) ?->", ""), "->|::", "2");
        none(code, "\\bhashCode\\b|\\btoString\\b|\\w+Exact\\b|\\bInteger\\.[A-Z]|\\bLong\\.[A-Z]", "4, 6");
        none(code, "\\bSystem\\.(?!arraycopy\\()|\\bArrays\\.(?!fill\\(|copyOf\\(|copyOfRange\\()", "4");
        none(code, "\\bMath\\.(?!min\\(|max\\(|abs\\(|floorDiv\\(|floorMod\\()", "4");
        none(code, "\\bimport (?!java\\.util\\.(Arrays|ArrayList|List|Iterator);)", "4");
        none(code, "\\bstatic \\{", "5");
        none(code, "\\bstatic (?!final )(?!.*\\()(?!.*class)", "5");
        String own = "ArrayList|StringBuilder|" + ownClasses(code);
        none(code, "\\bnew (?!(int|long|short|byte|char|boolean|String)\\[|String\\(|(" + own + ")\\b)", "4");
        shortMethods(code);
        namesAndSizes();
        DUE.end("LanguageTest");
    }

    /** No private method bears the name of a public one; few classes, of few fields; what is static is final. */
    private static void namesAndSizes() {
        List<Class<?>> classes = new ArrayList<>(List.of(GrowingBook.class.getDeclaredClasses()));
        classes.add(GrowingBook.class);
        DUE.is("few classes", classes.size() <= 12 ? 1 : 0, 1);
        List<String> face = new ArrayList<>();
        for (Method method : GrowingBook.class.getMethods()) {
            face.add(method.getName());
        }
        for (Class<?> of : classes) {
            for (Method method : of.getDeclaredMethods()) {
                boolean hidden = Modifier.isPrivate(method.getModifiers());
                DUE.is(method + " has a name of its own", hidden && face.contains(method.getName()) ? 0 : 1, 1);
            }
            int fields = 0;
            for (Field field : of.getDeclaredFields()) {
                boolean constant = Modifier.isStatic(field.getModifiers());
                fields += constant ? 0 : 1;
                DUE.is(field + " is final, if it is static", constant && !Modifier.isFinal(field.getModifiers()) ? 0 : 1, 1);
            }
            DUE.is(of + " has few fields", fields <= 20 ? 1 : 0, 1);
        }
    }

    private static void none(String code, String pattern, String rule) {
        Matcher matcher = Pattern.compile(pattern).matcher(code);
        boolean found = matcher.find();
        DUE.same("rule " + rule, found ? matcher.group() : "kept", "kept");
    }

    private static String ownClasses(String code) {
        List<String> names = new ArrayList<>();
        Matcher matcher = Pattern.compile("\\b(?:class|record|enum) (\\w+)").matcher(code);
        while (matcher.find()) {
            names.add(matcher.group(1));
        }
        return String.join("|", names);
    }

    private static void shortMethods(String code) {
        String[] lines = code.split("\n");
        List<String> methods = new ArrayList<>();
        for (int i = 0; i < lines.length; i++) {
            Matcher head = Pattern.compile("( {4}| {8})(?! )[\\w\\[\\] ]*?(\\w+)\\(([^()]*)\\) \\{").matcher(lines[i]);
            if (!head.matches() || head.group(2).matches("if|for|while|switch")) {
                continue;
            }
            int end = i;
            while (!lines[end].equals(head.group(1) + "}")) {
                end++;
            }
            methods.add(head.group(2));
            DUE.is(head.group(2) + " is short", end - i < 60 ? 1 : 0, 1);
            DUE.is(head.group(2) + " has few parameters", head.group(3).split(",").length <= 7 ? 1 : 0, 1);
        }
        DUE.is("methods were found", methods.size() > 20 ? 1 : 0, 1);
    }
}
