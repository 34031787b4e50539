import java.util.EnumSet;
import java.util.function.Supplier;

/** Tests that bear the sentences of the document as names: one test for each sentence. */
abstract class SentenceTest {
    interface On {
        Object call(CutleryOrchestra x);
    }

    interface OnNumber {
        Object call(CutleryOrchestra x, int number);
    }

    static final int[] EXTREMES = {Integer.MIN_VALUE, Integer.MIN_VALUE + 1, Integer.MAX_VALUE - 1, Integer.MAX_VALUE};
    static final String NO_PART = "Throws `IndexOutOfBoundsException` if there is no such part";

    private final Check check;
    private final Book book;
    private String name = "";
    private int checks;

    SentenceTest(Check check, Book book) {
        this.check = check;
        this.book = book;
    }

    abstract void run();

    void test(int promise, String sentence, Runnable body) {
        test(String.valueOf(promise), sentence, body);
    }

    void test(String place, String sentence, Runnable body) {
        book.countTest(check, place, sentence);
        name = place + ": " + sentence;
        checks = 0;
        try {
            body.run();
        } catch (RuntimeException e) {
            check.due(name + ", after check " + checks, "no exception", e);
        }
        check.due(name + " has checks", true, checks > 0);
    }

    private String nextCheck() {
        checks++;
        return name + ", check " + checks;
    }

    // ---- single answers

    void due(Object want, Object got) {
        check.due(nextCheck(), want, got);
    }

    void thrown(Class<?> type, Check.Call call) {
        check.due(nextCheck(), type, Check.answer(call));
    }

    // ---- calls that throw, and all that they leave as it was

    /** The call throws this, and nothing is different after it but for the looks that are left out. */
    void changesNothing(Class<?> type, Supplier<CutleryOrchestra> maker, On call, EnumSet<States.Look> leftOut) {
        String what = nextCheck();
        Supplier<CutleryOrchestra> called = () -> {
            CutleryOrchestra x = maker.get();
            check.due(what, type, Check.answer(() -> call.call(x)));
            return x;
        };
        for (States.Look look : EnumSet.complementOf(leftOut)) {
            check.due(what + ": " + look, "", difference(States.looked(look, maker), States.looked(look, called)));
        }
    }

    private static String difference(String before, String after) {
        int at = 0;
        while (at < before.length() && at < after.length() && before.charAt(at) == after.charAt(at)) {
            at++;
        }
        return before.equals(after) ? "" : "at " + at + " '" + from(before, at) + "' became '" + from(after, at) + "'";
    }

    private static String from(String text, int at) {
        return text.substring(at, Math.min(text.length(), at + 40));
    }

    /** For exceptions other than UnsupportedOperationException. */
    void changesNothing(Class<?> type, Supplier<CutleryOrchestra> maker, On call) {
        changesNothing(type, maker, call, EnumSet.noneOf(States.Look.class));
    }

    void rejected(int reason, int detail, Supplier<CutleryOrchestra> maker, On call) {
        CutleryOrchestra x = maker.get();
        thrown(Check.REJECTED, () -> call.call(x));
        due(reason, x.rejectionReason());
        due(detail, x.rejectionDetail());
        thrown(Check.ELEMENT, x::causeReason);
        changesNothing(Check.REJECTED, maker, call, EnumSet.of(States.Look.REJECTION));
    }

    // ---- sentences that many promises have

    /** Two tests: which parts there are, and which there are not. The first and the last of five parts answer this. */
    void partArgument(int promise, Object first, Object last, OnNumber call) {
        indexArgument(promise, "- `part`: the index of a part", first, last, call);
        test(promise, NO_PART, () -> noSuchPart(call));
    }

    void indexArgument(int promise, String sentence, Object first, Object last, OnNumber call) {
        test(promise, sentence, () -> {
            due(first, call.call(States.five(), 0));
            due(last, call.call(States.five(), 4));
            thrown(Check.INDEX, () -> call.call(States.five(), -1));
            thrown(Check.INDEX, () -> call.call(States.five(), 5));
        });
    }

    void noSuchPart(OnNumber call) {
        thrown(Check.INDEX, () -> call.call(new CutleryOrchestra(), 0));
        thrown(Check.INDEX, () -> call.call(new CutleryOrchestra(), -1));
        thrown(Check.INDEX, () -> call.call(Check.withParts(1), 1));
        for (int part : EXTREMES) {
            thrown(Check.INDEX, () -> call.call(States.five(), part));
        }
        changesNothing(Check.INDEX, States::busy, x -> call.call(x, 3));
        changesNothing(Check.INDEX, States::busy, x -> call.call(x, -1));
        changesNothing(Check.INDEX, States::full, x -> call.call(x, 5));
    }

    /** The least and the greatest number are seen after the call; the ones beside them are refused. */
    void range(int promise, String sentence, int least, int greatest, Supplier<CutleryOrchestra> maker, OnNumber call,
            On seen) {
        test(promise, sentence, () -> {
            for (int number : new int[] {least, greatest}) {
                CutleryOrchestra x = maker.get();
                call.call(x, number);
                due(number, seen.call(x));
            }
            outOfRange(least, greatest, maker, call);
        });
    }

    /** The least and the greatest number answer this; the ones beside them are refused. */
    void range(int promise, String sentence, int least, Object atLeast, int greatest, Object atGreatest,
            Supplier<CutleryOrchestra> maker, OnNumber call) {
        test(promise, sentence, () -> {
            due(atLeast, call.call(maker.get(), least));
            due(atGreatest, call.call(maker.get(), greatest));
            outOfRange(least, greatest, maker, call);
        });
    }

    private void outOfRange(int least, int greatest, Supplier<CutleryOrchestra> maker, OnNumber call) {
        thrown(Check.ARGUMENT, () -> call.call(maker.get(), least - 1));
        thrown(Check.ARGUMENT, () -> call.call(maker.get(), greatest + 1));
    }

    /** Each of these numbers is refused, and changes nothing. */
    void refusesNumbers(Supplier<CutleryOrchestra> maker, OnNumber call, int... numbers) {
        for (int number : numbers) {
            changesNothing(Check.ARGUMENT, maker, x -> call.call(x, number));
        }
        for (int number : EXTREMES) {
            CutleryOrchestra x = maker.get();
            thrown(Check.ARGUMENT, () -> call.call(x, number));
        }
    }
}
