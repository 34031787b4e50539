import java.lang.reflect.Constructor;
import java.lang.reflect.Field;
import java.lang.reflect.Method;
import java.lang.reflect.Modifier;
import java.nio.file.Files;
import java.nio.file.Path;
import java.util.TreeSet;
import java.util.regex.Matcher;
import java.util.regex.Pattern;

/** The face as the document has it, and the rules of LANGUAGE.md that a scan of the source can tell. */
final class FaceTest {
    /** The arguments are the paths of the source and of the document. */
    static void run(Check c, String[] paths) throws Exception {
        c.due("paths of the source and the document", 2, paths.length);
        if (paths.length != 2) {
            return;
        }
        c.due("face", documentFace(Files.readString(Path.of(paths[1]))), classFace());
        nothingElse(c);
        source(c, Files.readString(Path.of(paths[0])));
    }

    private static TreeSet<String> documentFace(String document) {
        TreeSet<String> face = new TreeSet<>();
        Matcher line = Pattern.compile("(?m)^    public (?!static)(.*);$").matcher(document);
        while (line.find()) {
            face.add(line.group(1).replaceAll("(int|char) \\w+(?=[,)])", "$1"));
        }
        return face;
    }

    private static TreeSet<String> classFace() {
        TreeSet<String> face = new TreeSet<>();
        for (Method method : CutleryOrchestra.class.getDeclaredMethods()) {
            if (Modifier.isPublic(method.getModifiers())) {
                face.add(method.getReturnType() + " " + method.getName() + listed(method.getParameterTypes())
                    + thrown(method.getExceptionTypes()));
            }
        }
        for (Constructor<?> constructor : CutleryOrchestra.class.getDeclaredConstructors()) {
            face.add(constructor.getName() + listed(constructor.getParameterTypes()));
        }
        return face;
    }

    private static String listed(Class<?>[] types) {
        return "(" + names(types) + ")";
    }

    private static String thrown(Class<?>[] types) {
        return types.length == 0 ? "" : " throws " + names(types);
    }

    private static String names(Class<?>[] types) {
        String[] names = new String[types.length];
        for (int i = 0; i < types.length; i++) {
            names[i] = types[i].getSimpleName();
        }
        return String.join(", ", names);
    }

    private static void nothingElse(Check c) {
        Class<?> type = CutleryOrchestra.class;
        c.due("rule 1: final", true, Modifier.isFinal(type.getModifiers()));
        TreeSet<String> publicNames = new TreeSet<>();
        for (Method method : type.getDeclaredMethods()) {
            boolean isPublic = Modifier.isPublic(method.getModifiers());
            c.due("rule 1: " + method, true, isPublic || Modifier.isPrivate(method.getModifiers()));
            if (isPublic) {
                publicNames.add(method.getName());
            }
        }
        for (Class<?> owner : type.getDeclaredClasses()) {
            c.due("rule 1: " + owner, true, Modifier.isStatic(owner.getModifiers()));
            for (Method method : owner.getDeclaredMethods()) {
                c.due("rule 1: " + method, false, publicNames.contains(method.getName()));
            }
        }
        for (Method method : type.getDeclaredMethods()) {
            if (Modifier.isPrivate(method.getModifiers())) {
                c.due("rule 1: " + method, false, publicNames.contains(method.getName()));
            }
        }
        int constants = 0;
        for (Field field : type.getDeclaredFields()) {
            int modifiers = field.getModifiers();
            boolean isPublic = Modifier.isPublic(modifiers);
            c.due("rule 1: " + field, true, isPublic || Modifier.isPrivate(modifiers));
            c.due("rule 5: " + field, true, !Modifier.isStatic(modifiers) || Modifier.isFinal(modifiers));
            constants += isPublic ? 1 : 0;
        }
        c.due("constants", 9, constants);
    }

    private static void source(Check c, String source) {
        String code = source.replaceAll("//.*", "").replaceAll("(?s)/\\*.*?\\*/", "");
        String[] forbidden = {
            "->", "::", "\\bassert\\b", "\\bsynchronized\\b", "\\bfinally\\b", "\\brecord\\b", "\\bvar\\b", "Exact\\b",
            "Float\\.", "Double\\.", "Character\\.", "String\\.", "System\\.(?!arraycopy)", "Arrays\\.", "\\bObject\\b",
            "\\bpackage\\b", "\\bcatch\\b", "\\bprotected\\b", "\\bequals\\b", "\\bhashCode\\b", "\\btoString\\b",
            "import (?!java\\.util\\.NoSuchElementException;)", "Math\\.(?!(min|max|abs)\\()", "while \\(true\\)",
            "Integer\\.(?!(bitCount|numberOfTrailingZeros)\\()", "\" \\+", "\\+ \"", "[^\\x00-\\x7e]",
        };
        for (String sign : forbidden) {
            c.due("source with " + sign, false, Pattern.compile(sign).matcher(code).find());
        }
        Matcher thrown = Pattern.compile("throw (.*)").matcher(code);
        while (thrown.find()) {
            c.due("rule 6: " + thrown.group(), true, thrown.group(1).matches("new \\w+Exception\\(\"[^\"]*\"\\);"));
        }
        longMethods(c, source);
    }

    private static void longMethods(Check c, String source) {
        String[] lines = source.split("\n");
        int start = 0;
        for (int i = 0; i < lines.length; i++) {
            if (lines[i].matches("    (    )?[a-z].*[({].*") && !lines[i].contains(" class ")) {
                start = i;
            }
            if (lines[i].matches("    (    )?}")) {
                c.due("rule 11: line " + start, true, i - start <= 60 || lines[i].length() == 5);
            }
        }
    }
}
