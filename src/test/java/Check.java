import java.util.NoSuchElementException;

/** Counts what is as due, and prints what is not. */
final class Check {
    interface Call {
        Object run();
    }

    static final Class<?> INDEX = IndexOutOfBoundsException.class;
    static final Class<?> ARGUMENT = IllegalArgumentException.class;
    static final Class<?> STATE = IllegalStateException.class;
    static final Class<?> ELEMENT = NoSuchElementException.class;
    static final Class<?> ARITHMETIC = ArithmeticException.class;
    static final Class<?> REJECTED = UnsupportedOperationException.class;

    private int passed;
    private int failed;

    void due(String what, Object want, Object got) {
        if (want.equals(got)) {
            passed++;
        } else {
            failed++;
            System.out.println(what + " answered " + got + ", due is " + want);
        }
    }

    void thrown(String what, Class<?> type, Call call) {
        due(what, type, answer(call));
    }

    /** What the call answers, or the class of what it throws. */
    static Object answer(Call call) {
        try {
            return call.run();
        } catch (RuntimeException e) {
            return e.getClass();
        }
    }

    void rejected(String what, CutleryOrchestra x, int reason, int detail, Call call) {
        thrown(what, REJECTED, call);
        due(what + ": reason", reason, x.rejectionReason());
        due(what + ": detail", detail, x.rejectionDetail());
    }

    int passed() {
        return passed;
    }

    int failed() {
        return failed;
    }

    // ---- objects to call

    static CutleryOrchestra withParts(int parts) {
        CutleryOrchestra x = new CutleryOrchestra();
        for (int i = 0; i < parts; i++) {
            x.addPart();
        }
        return x;
    }

    /** Adds notes that are written as in the output: "12*4 -*2". */
    static void add(CutleryOrchestra x, int part, String notes) {
        for (String note : notes.split(" ")) {
            String[] halves = note.split("\\*");
            if (halves[0].equals("-")) {
                x.addRest(part, Integer.parseInt(halves[1]));
            } else {
                x.addNote(part, Integer.parseInt(halves[0]), Integer.parseInt(halves[1]));
            }
        }
    }

    static String written(CutleryOrchestra x, int part) {
        int length = x.writePart(part);
        StringBuilder text = new StringBuilder();
        for (int i = 0; i < length; i++) {
            text.append(x.outputAt(i));
        }
        return text.toString();
    }

    static void type(CutleryOrchestra x, String text) {
        for (int i = 0; i < text.length(); i++) {
            x.appendInput(text.charAt(i));
        }
    }

    static int run(CutleryOrchestra x, String text) {
        type(x, text);
        return x.execute();
    }
}
