import java.io.IOException;
import java.lang.reflect.Field;
import java.lang.reflect.Method;
import java.lang.reflect.Modifier;
import java.nio.file.Files;
import java.nio.file.Path;
import java.util.ArrayList;
import java.util.List;
import java.util.TreeSet;
import java.util.regex.Matcher;
import java.util.regex.Pattern;

/** The rules of ../shared/LANGUAGE.md that can be seen by a look at the source and at the compiled class. */
public final class LanguageTest {
    private static final String FACE = "set carpet told asks feed text force say flies shortest there furthest meet rows"
            + " highest tells ways drawn chance image back count sheet cell copy carpets taken";
    private static final String LIBRARY = "Arrays.fill Arrays.copyOf Arrays.copyOfRange System.arraycopy Math.abs Math.max"
            + " Math.min Integer.bitCount Long.bitCount";

    public static void main(String[] args) throws IOException {
        String source = Files.readString(Path.of("src/main/java/FlownOnceAndLaid.java"));
        words(withoutCommentsAndTexts(source));
        library(withoutCommentsAndTexts(source));
        methods(withoutCommentsAndTexts(source));
        face();
        Due.end();
    }

    private static String withoutCommentsAndTexts(String source) {
        return source.replaceAll("\"[^\"\n]*\"", "\"\"").replaceAll("'[^']'", "0")
                .replaceAll("//[^\n]*", "").replaceAll("(?s)/\\*.*?\\*/", "");
    }

    private static void words(String source) {
        String[] outside = {"\\bthrow\\b", "\\bthrows\\b", "\\btry\\b", "\\bcatch\\b", "\\bsynchronized\\b", "\\bassert\\b",
            "->", "::", "\\bstatic\\s*\\{", "\\bpackage\\b", "\\bprotected\\b", "\\bnative\\b", "\\bThread\\b", "Exact\\b",
            "\\bhashCode\\b", "\\btoString\\b", "\\bObject\\b", "\\bvar\\b", "\\bgoto\\b", "@"};
        for (String word : outside) {
            Due.is("uses of " + word, Pattern.compile(word).matcher(source).results().count(), 0);
        }
        Due.is("imports", Pattern.compile("import (?!java\\.util\\.Arrays;)").matcher(source).results().count(), 0);
        for (int i = 0; i < source.length(); i++) {
            if (source.charAt(i) > 127) {
                Due.is("sign at " + i, source.charAt(i), 127);
            }
        }
    }

    private static void library(String source) {
        TreeSet<String> known = new TreeSet<>(List.of(LIBRARY.split(" ")));
        Matcher uses = Pattern.compile("\\b(Arrays|System|Math|Integer|Long|String)\\.\\w+").matcher(source);
        while (uses.find()) {
            Due.is("library: " + uses.group(), known.contains(uses.group()) ? 1 : 0, 1);
        }
    }

    private static void methods(String source) {
        Pattern head = Pattern.compile("^ +(?:public|private) (?:static )?\\S+ (\\w+)\\(([^)]*)\\) \\{$");
        String[] lines = source.split("\n", -1);
        TreeSet<String> face = new TreeSet<>(List.of(FACE.split(" ")));
        for (int i = 0; i < lines.length; i++) {
            Matcher m = head.matcher(lines[i]);
            if (!m.matches()) {
                continue;
            }
            String indent = lines[i].substring(0, lines[i].length() - lines[i].stripLeading().length());
            int end = i;
            while (!lines[end].equals(indent + "}")) {
                end++;
            }
            Due.is(m.group(1) + " is short", end - i + 1 <= 60 ? 1 : 0, 1);
            Due.is(m.group(1) + " takes few", m.group(2).split(",").length <= 7 ? 1 : 0, 1);
            if (lines[i].contains("private")) {
                Due.is(m.group(1) + " has a name of its own", face.contains(m.group(1)) ? 1 : 0, 0);
            }
        }
    }

    private static void face() {
        Class<?> face = FlownOnceAndLaid.class;
        Due.is("public and final", face.getModifiers() & (Modifier.PUBLIC | Modifier.FINAL),
                Modifier.PUBLIC | Modifier.FINAL);
        TreeSet<String> names = new TreeSet<>();
        for (Method method : face.getDeclaredMethods()) {
            boolean isPublic = Modifier.isPublic(method.getModifiers());
            Due.is(method.getName() + " is public or private",
                    isPublic || Modifier.isPrivate(method.getModifiers()) ? 1 : 0, 1);
            if (isPublic) {
                names.add(method.getName());
            }
        }
        Due.is("the face", names.equals(new TreeSet<>(List.of(FACE.split(" ")))) ? 1 : 0, 1);
        List<Class<?>> all = new ArrayList<>(List.of(face.getDeclaredClasses()));
        Due.is("few classes", all.size() <= 11 ? 1 : 0, 1);
        all.add(face);
        for (Class<?> one : all) {
            Due.is(one + " is static", one == face || Modifier.isStatic(one.getModifiers()) ? 1 : 0, 1);
            int fields = 0;
            for (Field field : one.getDeclaredFields()) {
                boolean isStatic = Modifier.isStatic(field.getModifiers());
                fields += isStatic ? 0 : 1;
                Due.is(field + " is final if static", !isStatic || Modifier.isFinal(field.getModifiers()) ? 1 : 0, 1);
                boolean known = " NONE BAD STATE FULL NO ".contains(" " + field.getName() + " ");
                Due.is(field + " is private or told", known || Modifier.isPrivate(field.getModifiers()) ? 1 : 0, 1);
            }
            Due.is(one + " has few fields", fields <= 20 ? 1 : 0, 1);
        }
    }
}
