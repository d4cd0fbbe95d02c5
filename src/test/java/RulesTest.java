import java.io.IOException;
import java.lang.reflect.Constructor;
import java.lang.reflect.Field;
import java.lang.reflect.Method;
import java.lang.reflect.Modifier;
import java.nio.file.Files;
import java.nio.file.Path;
import java.util.ArrayList;
import java.util.HashSet;
import java.util.List;
import java.util.Set;
import java.util.regex.Matcher;
import java.util.regex.Pattern;

/** The document's face, and the rules of LANGUAGE.md that can be seen in the class and its text. */
public final class RulesTest {
    private static final Path SOURCE = Path.of("src/main/java/PhaseConverter.java");
    private static final Path DOCUMENT = Path.of("../shared/DOC.md");

    public static void main(String[] args) throws IOException {
        String text = withoutCommentsAndTexts(Files.readString(SOURCE));
        faceIsTheDocuments(Files.readString(DOCUMENT), Files.readString(SOURCE));
        noOtherMember();
        noPrivateNameOfAPublicMethod();
        forbiddenWords(text);
        throwsAsWritten(Files.readString(SOURCE));
        sizes(text);
        Check.end("RulesTest");
    }

    private static String withoutCommentsAndTexts(String source) {
        return source.replaceAll("(?s)/\\*.*?\\*/", "").replaceAll("//[^\n]*", "")
            .replaceAll("\"[^\"\n]*\"", "\"\"").replaceAll("'[^'\n]'", "'.'");
    }

    private static void faceIsTheDocuments(String document, String source) {
        String face = document.substring(document.indexOf("```java"), document.indexOf("## Terms"));
        Matcher line = Pattern.compile("^    public (.*);$", Pattern.MULTILINE).matcher(face);
        int members = 0;
        while (line.find()) {
            members++;
            String member = "    public " + line.group(1);
            Check.same("the class has: " + member.trim(),
                source.contains(member + " {") || source.contains(member + ";") ? 1 : 0, 1);
        }
        Check.same("members of the face", members, 21);
    }

    private static void noOtherMember() {
        int open = 0;
        for (Method method : PhaseConverter.class.getDeclaredMethods()) {
            open += Modifier.isPrivate(method.getModifiers()) ? 0 : 1;
        }
        for (Field field : PhaseConverter.class.getDeclaredFields()) {
            open += Modifier.isPrivate(field.getModifiers()) ? 0 : 1;
            boolean fixed = !Modifier.isStatic(field.getModifiers()) || Modifier.isFinal(field.getModifiers());
            Check.same("static and not final: " + field.getName(), fixed ? 1 : 0, 1);
        }
        for (Constructor<?> constructor : PhaseConverter.class.getDeclaredConstructors()) {
            open += Modifier.isPrivate(constructor.getModifiers()) ? 0 : 1;
        }
        Check.same("members that are not private", open, 21);
        Check.same("the class is final", Modifier.isFinal(PhaseConverter.class.getModifiers()) ? 1 : 0, 1);
        for (Class<?> inside : PhaseConverter.class.getDeclaredClasses()) {
            Check.same("static: " + inside.getName(), Modifier.isStatic(inside.getModifiers()) ? 1 : 0, 1);
        }
    }

    private static void noPrivateNameOfAPublicMethod() {
        Set<String> face = new HashSet<>();
        for (Method method : PhaseConverter.class.getMethods()) {
            face.add(method.getName());
        }
        List<Method> others = new ArrayList<>();
        for (Method method : PhaseConverter.class.getDeclaredMethods()) {
            if (!Modifier.isPublic(method.getModifiers())) {
                others.add(method);
            }
        }
        for (Class<?> inside : PhaseConverter.class.getDeclaredClasses()) {
            others.addAll(List.of(inside.getDeclaredMethods()));
        }
        for (Method method : others) {
            Check.same("named as a public method: " + method, face.contains(method.getName()) ? 1 : 0, 0);
            Check.same("too many parameters: " + method, method.getParameterCount() <= 7 ? 1 : 0, 1);
        }
    }

    private static void forbiddenWords(String text) {
        String[] words = {"->", "::", "\\bimport\\b", "\\bpackage\\b", "\\btry\\b", "\\bcatch\\b", "\\bfinally\\b",
            "\\bsynchronized\\b", "\\bassert\\b", "\\bprotected\\b", "Exact\\b", "static\\s*\\{", "\\bSystem\\.(?!arraycopy)",
            "\\bThread\\b", "\\bRandom\\b", "\\bjava\\.", "\\bhashCode\\b", "\\btoString\\b", "\\bObject\\b", "\\bvar\\b",
            "\\bdo\\b", "while\\s*\\(", "@"};
        for (String word : words) {
            Check.same("the text has " + word, Pattern.compile(word).matcher(text).find() ? 1 : 0, 0);
        }
    }

    private static void throwsAsWritten(String source) {
        Matcher all = Pattern.compile("\\bthrow\\b").matcher(source);
        Matcher right = Pattern.compile("\\bthrow new (IllegalStateException|IllegalArgumentException"
            + "|IndexOutOfBoundsException)\\(\"[a-z0-9 ]+\"\\);").matcher(source);
        Check.same("throws in another form", all.results().count(), right.results().count());
    }

    private static void sizes(String text) {
        int classes = 1 + PhaseConverter.class.getDeclaredClasses().length;
        Check.same("classes", classes <= 12 ? 1 : 0, 1);
        for (Class<?> inside : PhaseConverter.class.getDeclaredClasses()) {
            long fields = List.of(inside.getDeclaredFields()).stream()
                .filter(f -> !Modifier.isStatic(f.getModifiers())).count();
            Check.same("fields of " + inside.getName() + ": " + fields, fields <= 20 ? 1 : 0, 1);
        }
        String[] lines = text.split("\n");
        int from = 0;
        for (int i = 0; i < lines.length; i++) {
            if (lines[i].matches(" {4,8}[a-zA-Z].*\\) .*\\{")) {
                from = i;
            }
            if (lines[i].matches(" {4,8}\\}")) {
                Check.same("a long method ends at line " + (i + 1), i - from < 60 ? 1 : 0, 1);
                from = i;
            }
        }
    }
}
