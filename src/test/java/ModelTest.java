import java.lang.reflect.InvocationTargetException;
import java.lang.reflect.Method;
import java.util.Arrays;
import java.util.Comparator;

/** Random runs, always the same ones: each call's answer is compared with the model's. */
final class ModelTest {
    private static final int RUNS = 400;
    private static final int CALLS = 512;
    private static final String[] CHANGES = {
        "addPart", "addNote", "addNote", "addNote", "addRest", "removeLast", "transpose", "setTuning", "setCue",
        "setCue", "removeCue", "setBar", "setTempo", "play", "undo",
    };

    private final Check check;
    private final Method[] face = CutleryOrchestra.class.getMethods();
    private long seed;
    private CutleryOrchestra real;
    private Model model;
    private StringBuilder told;
    private boolean same;

    private ModelTest(Check check) {
        this.check = check;
        Arrays.sort(face, Comparator.comparing(Method::getName));
    }

    static void run(Check c) throws Exception {
        ModelTest test = new ModelTest(c);
        for (int run = 0; run < RUNS; run++) {
            test.oneRun(run);
        }
    }

    private void oneRun(int run) throws Exception {
        seed = run * 7919L + 1;
        real = new CutleryOrchestra();
        model = new Model();
        told = new StringBuilder();
        same = true;
        int calls = 0;
        for (int i = below(6); i > 0; i--) {
            call("addPart");
            calls++;
        }
        while (calls < CALLS && same) {
            int kind = below(10);
            if (kind == 0 && calls < CALLS - 70) {
                calls += type(input());
                call("execute");
            } else if (kind < 5) {
                call(CHANGES[below(CHANGES.length)]);
            } else {
                call(anyName());
            }
            calls++;
        }
        check.due("run " + run + told, true, same);
    }

    private String anyName() {
        while (true) {
            Method method = face[below(face.length)];
            if (method.getDeclaringClass() == CutleryOrchestra.class) {
                return method.getName();
            }
        }
    }

    private int below(int bound) {
        seed = seed * 6364136223846793005L + 1442695040888963407L;
        return (int) ((seed >>> 33) % bound);
    }

    private void call(String name) throws Exception {
        for (Method method : face) {
            if (method.getName().equals(name)) {
                call(method, arguments(method));
            }
        }
    }

    private void call(Method method, Object[] arguments) throws Exception {
        Method twin = Model.class.getMethod(method.getName(), method.getParameterTypes());
        Object got = answer(method, real, arguments);
        Object want = answer(twin, model, arguments);
        if (same && !got.equals(want)) {
            same = false;
            told.append(": ").append(method.getName()).append(Arrays.toString(arguments)).append(" answered ")
                .append(got).append(", due is ").append(want);
        }
    }

    private static Object answer(Method method, Object target, Object[] arguments) throws Exception {
        try {
            return method.invoke(target, arguments);
        } catch (InvocationTargetException e) {
            for (Class<?> type = e.getCause().getClass(); ; type = type.getSuperclass()) {
                if (type.getName().startsWith("java.")) {
                    return type;
                }
            }
        }
    }

    private Object[] arguments(Method method) {
        Class<?>[] types = method.getParameterTypes();
        Object[] arguments = new Object[types.length];
        for (int i = 0; i < types.length; i++) {
            arguments[i] = types[i] == char.class ? (Object) (char) (30 + below(99)) : number(method.getName(), i);
        }
        return arguments;
    }

    private int number(String name, int index) {
        int luck = below(40);
        if (luck == 0) {
            return below(2) == 0 ? Integer.MIN_VALUE : Integer.MAX_VALUE;
        }
        if (luck == 1) {
            return below(2001) - 1000;
        }
        switch (name) {
            case "addNote":
                return index == 0 ? below(5) : index == 1 ? pitch() : length();
            case "addRest":
                return index == 0 ? below(5) : length();
            case "transpose":
                return index == 0 ? below(5) : below(4) == 0 ? below(75) - 37 : below(7) - 3;
            case "setTuning":
                return index == 0 ? below(5) : below(3) == 0 ? below(102) : 1 + below(9);
            case "setBar":
                return below(3) == 0 ? below(51) : 1 + below(12);
            case "setTempo":
                return index == 0 ? (below(2) == 0 ? below(6) : below(1002) - 1) : 28 + below(216);
            case "tempoAt":
            case "startOfBar":
            case "startOfBarByTempos":
                return below(3) == 0 ? below(8) : below(1003) - 1;
            case "play":
            case "solosAhead":
                return below(3) == 0 ? below(23) : 1 + below(3);
            case "soundingAt":
            case "chordAt":
                return tick();
            case "outputAt":
                return below(30) - 1;
            default:
                return byIndex(name, index);
        }
    }

    private int byIndex(String name, int index) {
        if (index == 1 && name.equals("noteAt")) {
            return tick();
        }
        if (index == 1 && name.startsWith("nearest")) {
            return below(23) - 1;
        }
        return below(8) == 0 ? below(13) - 1 : below(5);
    }

    private int tick() {
        return below(8) == 0 ? 999990 + below(20) : below(300) - 1;
    }

    private int pitch() {
        return below(3) == 0 ? below(38) - 1 : below(3) + 5;
    }

    private int length() {
        return below(3) == 0 ? below(14) : 1 + below(2);
    }

    private String input() {
        StringBuilder text = new StringBuilder();
        for (int i = 1 + below(4); i > 0; i--) {
            text.append(text.length() == 0 ? "" : ";").append(command());
        }
        if (below(4) == 0 && text.length() > 0) {
            int at = below(text.length());
            String signs = "0123456789 ;/>-abcdelmnoprstuvy";
            char sign = signs.charAt(below(signs.length()));
            int kind = below(3);
            text.replace(at, kind == 0 ? at : at + 1, kind == 1 ? "" : String.valueOf(sign));
        }
        if (below(12) == 0) {
            text.setLength(below(text.length() + 1));
        }
        return text.toString();
    }

    private String command() {
        switch (below(11)) {
            case 0:
                return "part";
            case 1:
                return "note " + below(5) + " " + Math.max(0, pitch()) + " " + length();
            case 2:
                return "rest " + below(5) + " " + length();
            case 3:
                return "last " + below(5);
            case 4:
                return "move " + below(5) + " " + (below(7) - 3);
            case 5:
                return "tune " + below(5) + " " + (1 + below(9)) + "/" + (1 + below(30));
            case 6:
                return "cue " + below(6) + ">" + below(5);
            case 7:
                return "alone " + below(5);
            case 8:
                return "bar " + (1 + below(16));
            case 9:
                return "tempo " + below(8) + " " + (30 + below(200));
            default:
                return "play " + below(5);
        }
    }

    private int type(String text) throws Exception {
        Method append = CutleryOrchestra.class.getMethod("appendInput", char.class);
        for (int i = 0; i < text.length(); i++) {
            call(append, new Object[] {text.charAt(i)});
        }
        return text.length();
    }
}
