import java.io.IOException;
import java.lang.reflect.Field;
import java.lang.reflect.Method;
import java.lang.reflect.Modifier;
import java.nio.charset.StandardCharsets;
import java.nio.file.Files;
import java.nio.file.Path;
import java.util.ArrayList;
import java.util.List;
import java.util.Set;
import java.util.TreeSet;
import java.util.regex.Matcher;
import java.util.regex.Pattern;

/** The rules of LANGUAGE.md that can be seen in the source or in the class; it runs in the project's folder. */
public final class LanguageTest {
    private static final Path SOURCE = Path.of("src", "main", "java", "NineCats.java");
    private static final Set<String> NAMES = Set.of("String", "StringBuilder", "Integer", "Long", "Math", "Arrays",
        "ArrayList", "List", "Iterator", "Iterable", "Comparable", "System");
    private static final Set<String> IMPORTS = Set.of("java.util.Arrays", "java.util.ArrayList", "java.util.List",
        "java.util.Iterator");
    private static final String[] NO_WORDS = {"throw", "throws", "try", "catch", "finally", "synchronized", "assert",
        "volatile", "transient", "native", "package", "protected", "var", "yield", "super"};

    public static void main(String[] args) throws IOException {
        String source = Files.readString(SOURCE, StandardCharsets.ISO_8859_1);
        signs(source);
        String code = withoutCommentsAndTexts(source);
        words(code);
        names(code);
        imports(source);
        library(code);
        lengths(code);
        members();
        Due.end();
    }

    private static void signs(String source) {
        Due.is("signs beyond 127", source.chars().filter(c -> c > 127).count(), 0);
        Due.is("texts joined by +", count(source, "\"\\s*\\+|\\+\\s*\""), 0);
    }

    private static String withoutCommentsAndTexts(String source) {
        return source.replaceAll("(?s)/\\*.*?\\*/", "").replaceAll("//[^\n]*", "")
            .replaceAll("\"(\\\\.|[^\"\\\\])*\"", "\"\"").replaceAll("'(\\\\.|[^'\\\\])'", "' '");
    }

    private static long count(String text, String pattern) {
        return Pattern.compile(pattern).matcher(text).results().count();
    }

    // rules 2, 5 and 6
    private static void words(String code) {
        for (String word : NO_WORDS) {
            Due.is("the word " + word, count(code, "\\b" + word + "\\b"), 0);
        }
        Due.is("lambdas", count(code, "->"), 0);
        Due.is("method references", count(code, "::"), 0);
        Due.is("static initialisers", count(code, "\\bstatic\\s*\\{"), 0);
        Due.is("bodies behind new", count(code, "\\bnew\\s+\\w+\\s*\\([^;]*?\\)\\s*\\{"), 0);
        Due.is("loops without a bound", count(code, "while\\s*\\(true\\)|for\\s*\\([^;]*;\\s*;"), 0);
    }

    // rules 3, 4 and 13
    private static void names(String code) {
        Set<String> own = new TreeSet<>();
        Matcher classes = Pattern.compile("\\b(?:class|interface|enum|record)\\s+(\\w+)").matcher(code);
        while (classes.find()) {
            own.add(classes.group(1));
        }
        Due.is("more than twelve classes", Math.max(12, own.size()), 12);
        Matcher names = Pattern.compile("\\b[A-Z]\\w*[a-z]\\w*\\b").matcher(code);
        while (names.find()) {
            if (!NAMES.contains(names.group()) && !own.contains(names.group())) {
                Due.isText("a name beyond the library that may be used", names.group(), "");
            }
        }
    }

    private static void imports(String source) {
        Matcher imports = Pattern.compile("(?m)^import\\s+([^;]*);").matcher(source);
        while (imports.find()) {
            if (!IMPORTS.contains(imports.group(1))) {
                Due.isText("an import", imports.group(1), "");
            }
        }
        Due.is("names with their package", count(withoutCommentsAndTexts(source).replaceAll("(?m)^import.*$", ""), "\\bjava\\."), 0);
    }

    private static void library(String code) {
        Due.is("functions whose name ends in Exact", count(code, "Exact\\s*\\("), 0);
        Due.is("System but for arraycopy", count(code, "\\bSystem\\.(?!arraycopy\\()"), 0);
        Due.is("Arrays but for copies and fill", count(code, "\\bArrays\\.(?!copyOf\\(|copyOfRange\\(|fill\\()"), 0);
    }

    // rule 11: "Methods stay short (some sixty lines)"
    private static void lengths(String code) {
        Matcher heads = Pattern.compile("(?m)^( +)(?:[\\w\\[\\]<>]+ )+(\\w+)\\([^;{]*\\) \\{$").matcher(code);
        while (heads.find()) {
            int end = code.indexOf("\n" + heads.group(1) + "}", heads.end());
            long lines = code.substring(heads.start(), Math.max(end, heads.end())).lines().count();
            Due.is("more than sixty lines in " + heads.group(2), Math.max(60, lines), 60);
        }
    }

    // rules 1, 2, 5, 6 and 11
    private static void members() {
        List<Class<?>> all = new ArrayList<>(List.of(NineCats.class));
        for (Class<?> inside : NineCats.class.getDeclaredClasses()) {
            Due.is(inside.getName() + " is static", Modifier.isStatic(inside.getModifiers()) ? 1 : 0, 1);
            Due.is(inside.getName() + " is public or protected", inside.getModifiers() & (Modifier.PUBLIC | Modifier.PROTECTED), 0);
            all.add(inside);
        }
        Set<String> calls = new TreeSet<>();
        for (Method method : NineCats.class.getDeclaredMethods()) {
            if (Modifier.isPublic(method.getModifiers())) {
                calls.add(method.getName());
            }
        }
        for (Class<?> one : all) {
            fields(one);
            for (Method method : one.getDeclaredMethods()) {
                String what = one.getName() + "." + method.getName();
                Due.is("more than seven parameters of " + what, Math.max(7, method.getParameterCount()), 7);
                boolean clash = Modifier.isPrivate(method.getModifiers()) && calls.contains(method.getName());
                Due.is(what + " bears the name of a call", clash ? 1 : 0, 0);
                boolean ofAll = Set.of("equals", "hashCode", "toString", "finalize", "clone").contains(method.getName());
                Due.is(what + " is one of all objects", ofAll ? 1 : 0, 0);
            }
        }
    }

    private static void fields(Class<?> one) {
        int own = 0;
        for (Field field : one.getDeclaredFields()) {
            if (Modifier.isStatic(field.getModifiers())) {
                Due.is(one.getName() + "." + field.getName() + " is final", Modifier.isFinal(field.getModifiers()) ? 1 : 0, 1);
            } else {
                own++;
            }
        }
        Due.is("more than twenty fields of " + one.getName(), Math.max(20, own), 20);
    }
}
