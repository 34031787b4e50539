import java.lang.reflect.Constructor;
import java.lang.reflect.Field;
import java.lang.reflect.Method;
import java.lang.reflect.Modifier;
import java.util.TreeSet;
import java.util.regex.Matcher;
import java.util.regex.Pattern;

/** The face as the document has it, and the rules of LANGUAGE.md that a scan of the source can tell. */
final class FaceTest {
    static void run(Check c, String source, String document) throws Exception {
        c.due("face", documentFace(document), classFace());
        c.due("constants", documentConstants(document), classConstants());
        groups(c, source, document);
        nothingElse(c);
        source(c, source);
    }

    private static TreeSet<String> documentFace(String document) {
        TreeSet<String> face = new TreeSet<>();
        Matcher line = Pattern.compile("(?m)^    public (?!static)(.*);$").matcher(document);
        while (line.find()) {
            face.add(line.group(1).replaceAll("(int|char) \\w+(?=[,)])", "$1"));
        }
        return face;
    }

    private static TreeSet<String> classFace() {
        TreeSet<String> face = new TreeSet<>();
        for (Method method : CutleryOrchestra.class.getDeclaredMethods()) {
            if (Modifier.isPublic(method.getModifiers())) {
                face.add(method.getReturnType() + " " + method.getName() + listed(method.getParameterTypes())
                    + thrown(method.getExceptionTypes()));
            }
        }
        for (Constructor<?> constructor : CutleryOrchestra.class.getDeclaredConstructors()) {
            face.add(constructor.getName() + listed(constructor.getParameterTypes()));
        }
        return face;
    }

    private static TreeSet<String> documentConstants(String document) {
        TreeSet<String> constants = new TreeSet<>();
        Matcher line = Pattern.compile("(?m)^    (public static .*);$").matcher(document);
        while (line.find()) {
            constants.add(line.group(1));
        }
        return constants;
    }

    private static TreeSet<String> classConstants() throws IllegalAccessException {
        TreeSet<String> constants = new TreeSet<>();
        for (Field field : CutleryOrchestra.class.getDeclaredFields()) {
            if (!Modifier.isPrivate(field.getModifiers())) {
                constants.add(Modifier.toString(field.getModifiers()) + " " + field.getType() + " " + field.getName()
                    + " = " + field.get(null));
            }
        }
        return constants;
    }

    /** What stands ahead of the calls in the document stands ahead of the same calls in the source. */
    private static void groups(Check c, String source, String document) {
        int end = 0;
        int groups = 0;
        Matcher group = Pattern.compile("Ahead of the calls (.*) the interface says: (---- .*)\\.").matcher(document);
        while (group.find()) {
            int at = source.indexOf("    // " + group.group(2) + "\n");
            c.due("in its order: " + group.group(2), true, at > end);
            end = source.indexOf("    // ----", at + 1);
            Matcher call = Pattern.compile("(?m)^    public \\w+ (\\w+)\\(").matcher(source.substring(at, end));
            StringBuilder calls = new StringBuilder();
            while (call.find()) {
                calls.append(calls.length() == 0 ? "`" : ", `").append(call.group(1)).append('`');
            }
            c.due("calls under " + group.group(2), group.group(1), calls.toString());
            end = at;
            groups++;
        }
        c.due("groups of calls", 10, groups);
    }

    private static String listed(Class<?>[] types) {
        return "(" + names(types) + ")";
    }

    private static String thrown(Class<?>[] types) {
        return types.length == 0 ? "" : " throws " + names(types);
    }

    private static String names(Class<?>[] types) {
        String[] names = new String[types.length];
        for (int i = 0; i < types.length; i++) {
            names[i] = types[i].getSimpleName();
        }
        return String.join(", ", names);
    }

    private static void nothingElse(Check c) {
        Class<?> type = CutleryOrchestra.class;
        c.due("rule 1: final", true, Modifier.isFinal(type.getModifiers()));
        TreeSet<String> publicNames = new TreeSet<>();
        for (Method method : type.getDeclaredMethods()) {
            boolean isPublic = Modifier.isPublic(method.getModifiers());
            c.due("rule 1: " + method, true, isPublic || Modifier.isPrivate(method.getModifiers()));
            if (isPublic) {
                publicNames.add(method.getName());
            }
        }
        for (Class<?> owner : type.getDeclaredClasses()) {
            c.due("rule 1: " + owner, true, Modifier.isStatic(owner.getModifiers()));
            for (Method method : owner.getDeclaredMethods()) {
                c.due("rule 1: " + method, false, publicNames.contains(method.getName()));
            }
        }
        for (Method method : type.getDeclaredMethods()) {
            if (Modifier.isPrivate(method.getModifiers())) {
                c.due("rule 1: " + method, false, publicNames.contains(method.getName()));
            }
        }
        for (Field field : type.getDeclaredFields()) {
            int modifiers = field.getModifiers();
            c.due("rule 5: " + field, true, !Modifier.isStatic(modifiers) || Modifier.isFinal(modifiers));
        }
    }

    private static void source(Check c, String source) {
        String code = source.replaceAll("//.*", "").replaceAll("(?s)/\\*.*?\\*/", "");
        String[] forbidden = {
            "->", "::", "\\bassert\\b", "\\bsynchronized\\b", "\\bfinally\\b", "\\brecord\\b", "\\bvar\\b", "Exact\\b",
            "Float\\.", "Double\\.", "Character\\.", "String\\.", "System\\.(?!arraycopy)", "Arrays\\.", "\\bObject\\b",
            "\\bpackage\\b", "\\bcatch\\b", "\\bprotected\\b", "\\bequals\\b", "\\bhashCode\\b", "\\btoString\\b",
            "import (?!java\\.util\\.NoSuchElementException;)", "Math\\.(?!(min|max|abs)\\()", "while \\(true\\)",
            "Integer\\.(?!(bitCount|numberOfTrailingZeros)\\()", "\" \\+", "\\+ \"", "[^\\x00-\\x7e]",
        };
        for (String sign : forbidden) {
            c.due("source with " + sign, false, Pattern.compile(sign).matcher(code).find());
        }
        Matcher thrown = Pattern.compile("throw (.*)").matcher(code);
        while (thrown.find()) {
            c.due("rule 6: " + thrown.group(), true, thrown.group(1).matches("new \\w+Exception\\(\"[^\"]*\"\\);"));
        }
        longMethods(c, source);
    }

    private static void longMethods(Check c, String source) {
        String[] lines = source.split("\n");
        int start = 0;
        for (int i = 0; i < lines.length; i++) {
            if (lines[i].matches("    (    )?[a-z].*[({].*") && !lines[i].contains(" class ")) {
                start = i;
            }
            if (lines[i].matches("    (    )?}")) {
                c.due("rule 11: line " + start, true, i - start <= 60 || lines[i].length() == 5);
            }
        }
    }
}
