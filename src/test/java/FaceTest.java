import java.io.IOException;
import java.lang.reflect.Member;
import java.lang.reflect.Method;
import java.lang.reflect.Modifier;
import java.nio.file.Files;
import java.nio.file.Path;
import java.util.ArrayList;
import java.util.Arrays;
import java.util.List;
import java.util.TreeSet;
import java.util.regex.Matcher;
import java.util.regex.Pattern;

/** The class has the document's face and nothing beside it, and the file keeps to what of LANGUAGE.md a text can tell. */
public final class FaceTest {
    private static final Path SOURCE = Path.of("src/main/java/UniversalCycles.java");

    private static String signature(Method method) {
        List<String> parameters = new ArrayList<>();
        for (Class<?> type : method.getParameterTypes()) {
            parameters.add(type.getSimpleName());
        }
        List<String> exceptions = new ArrayList<>();
        for (Class<?> type : method.getExceptionTypes()) {
            exceptions.add(type.getSimpleName());
        }
        return method.getReturnType().getSimpleName() + " " + method.getName() + "(" + String.join(", ", parameters) + ")"
                + (exceptions.isEmpty() ? "" : " throws " + String.join(", ", exceptions));
    }

    /** The signatures of the document's "The public face", without the names of parameters. */
    private static TreeSet<String> promised() throws IOException {
        TreeSet<String> result = new TreeSet<>();
        Matcher matcher = Pattern.compile("(?m)^    public ((?:int|long|boolean|char) \\w+\\()([^)]*)(\\)[^;]*);")
                .matcher(Files.readString(Document.PATH));
        while (matcher.find()) {
            result.add(matcher.group(1) + matcher.group(2).replaceAll("(\\w+) \\w+", "$1") + matcher.group(3));
        }
        return result;
    }

    private static boolean isHidden(Member member) {
        return Modifier.isPrivate(member.getModifiers()) || member.isSynthetic();
    }

    private static void face() throws IOException {
        Class<?> type = UniversalCycles.class;
        TreeSet<String> found = new TreeSet<>();
        TreeSet<String> names = new TreeSet<>();
        for (Method method : type.getDeclaredMethods()) {
            if (!isHidden(method)) {
                found.add(signature(method));
                names.add(method.getName());
            }
        }
        Check.due("the face", "methods", found.toString(), promised().toString());
        Check.due("the face", "number of methods", String.valueOf(found.size()), "42");
        Check.due("the face", "final class", String.valueOf(Modifier.isFinal(type.getModifiers())), "true");
        Check.due("the face", "constructors", Arrays.toString(type.getDeclaredConstructors()), "[public UniversalCycles()]");
        long visible = Arrays.stream(type.getDeclaredFields()).filter(field -> !isHidden(field)).count();
        Check.due("the face", "visible fields", String.valueOf(visible), "1");
        for (Class<?> inner : type.getDeclaredClasses()) {
            Check.due("the face", inner + " is static", String.valueOf(Modifier.isStatic(inner.getModifiers())), "true");
            for (Method method : inner.getDeclaredMethods()) {
                boolean isTaken = names.contains(method.getName());
                Check.due("the face", inner + "." + method.getName() + " bears a public name", String.valueOf(isTaken), "false");
            }
        }
        limits(type);
        for (Class<?> inner : type.getDeclaredClasses()) {
            limits(inner);
        }
        Check.due("rule 11", "at most twelve classes", String.valueOf(type.getDeclaredClasses().length + 1 <= 12), "true");
    }

    private static void limits(Class<?> type) {
        long fields = Arrays.stream(type.getDeclaredFields()).filter(field -> !Modifier.isStatic(field.getModifiers())).count();
        Check.due("rule 11", type + " has at most twenty fields", String.valueOf(fields <= 20), "true");
        for (Method method : type.getDeclaredMethods()) {
            Check.due("rule 11", method + " takes at most seven", String.valueOf(method.getParameterCount() <= 7), "true");
        }
    }

    private static void language() throws IOException {
        String source = Files.readString(SOURCE).replaceAll("(?s)/\\*.*?\\*/", "").replaceAll("//[^\n]*", "");
        String[] forbidden = {"->", "::", "\\btry\\b", "\\bcatch\\b", "\\bfinally\\b", "\\bsynchronized\\b", "\\bassert\\b",
            "Exact\\(", "\\bpackage\\b", "\\brecord\\b", "\\bvar\\b", "\\bgetMessage\\b", "\\bdouble\\b", "\\bfloat\\b",
            "System\\.(?!arraycopy)", "while \\(true\\)", "for \\(;;\\)", "\\bprotected\\b", "@"};
        for (String word : forbidden) {
            Check.due("the language", "holds " + word, String.valueOf(Pattern.compile(word).matcher(source).find()), "false");
        }
        Matcher imports = Pattern.compile("(?m)^import (.*);").matcher(source);
        List<String> found = new ArrayList<>();
        while (imports.find()) {
            found.add(imports.group(1));
        }
        Check.due("rule 4", "imports", found.toString(), "[java.util.Arrays, java.util.NoSuchElementException]");
        Check.due("rule 12", "arrays made outside the fields", String.valueOf(
                Pattern.compile("(?m)^(?!\\s*(private )?final ).*\\bnew \\w+\\[").matcher(source).find()), "false");
    }

    public static void main(String[] args) throws IOException {
        face();
        language();
        Check.end("FaceTest");
    }
}
