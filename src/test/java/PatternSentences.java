/** The sentences of promises 18 to 21: patterns. */
final class PatternSentences extends SentenceTest {
    private static final String NO_NOTES = "Throws `NoSuchElementException` if the part has no notes";
    private static final String NO_FIRST_OR_SECOND =
        "Throws `IndexOutOfBoundsException` if there is no such part, for first or second";
    private static final String TEN = "0*1 1*1 2*1 3*1 4*1 5*1 6*1 7*1 8*1 9*1";

    PatternSentences(Check check, Book book) {
        super(check, book);
    }

    @Override
    void run() {
        OnNumber walk = CutleryOrchestra::period;
        OnNumber trial = CutleryOrchestra::periodByTrying;
        test(18, "Returns the period of a part: the least number p, from 1 on, such that every note with an index of at"
            + " least p is the same as the note p indices before it.", () -> periods(walk));
        period(18, "Returns the period.", walk);
        test(19, "Returns the same period in a second way: by trying all numbers.", () -> periods(trial));
        period(19, "Returns the same period.", trial);
        test(20, "Returns the greatest number of notes that can be kept in each of two parts, by leaving out the"
            + " others, so that the kept notes are the same in the same order.", () -> themes(false));
        theme(20, "Returns the number of notes.", false);
        test(21, "Returns the same number in a second way: by trying all choices of notes of the first part.",
            () -> themes(true));
        theme(21, "Returns the same number.", true);
    }

    private static CutleryOrchestra with(String... notes) {
        CutleryOrchestra x = Check.withParts(notes.length);
        for (int part = 0; part < notes.length; part++) {
            if (!notes[part].isEmpty()) {
                Check.add(x, part, notes[part]);
            }
        }
        return x;
    }

    private void periods(OnNumber period) {
        due(1, period.call(with("0*1"), 0));
        due(1, period.call(with("-*12"), 0));
        due(1, period.call(with("5*2 5*2"), 0));
        due(2, period.call(with("5*2 5*3"), 0));
        due(2, period.call(with("5*2 6*2"), 0));
        due(2, period.call(with("0*2 -*2"), 0));
        due(2, period.call(with("5*2 6*2 5*2"), 0));
        due(3, period.call(with("5*2 5*2 6*2"), 0));
        // The last note alone ends the pattern; the last note alone begins it again.
        due(10, period.call(with("1*1 1*1 1*1 1*1 1*1 1*1 1*1 1*1 1*1 2*1"), 0));
        due(9, period.call(with("1*1 1*1 1*1 1*1 1*1 1*1 1*1 1*1 2*1 1*1"), 0));
        due(9, period.call(with("1*1 2*1 2*1 2*1 2*1 2*1 2*1 2*1 2*1 1*1"), 0));
        due(5, period.call(with("1*1 2*1 1*1 2*1 3*1 1*1 2*1 1*1 2*1 3*1"), 0));
        due(6, period.call(with("1*1 2*1 1*1 2*1 3*1 3*1 1*1 2*1 1*1 2*1"), 0));
        due(7, period.call(with("1*1 1*1 2*1 1*1 1*1 2*1 2*1 1*1 1*1 2*1"), 0));
        // What comes again breaks off, and comes again from a shorter beginning.
        due(4, period.call(with("1*1 1*1 2*1 1*1 1*1 1*1"), 0));
        due(7, period.call(with("1*1 2*1 1*1 3*1 1*1 2*1 1*1 1*1 2*1 1*1"), 0));
        due(4, period.call(with("1*1 1*1 2*1 3*1 1*1 1*1 2*1 3*1 1*1 1*1"), 0));
    }

    private void period(int promise, String answer, OnNumber period) {
        partArgument(promise, 1, 2, period);
        test(promise, answer, () -> {
            due(1, period.call(States.full(), 4));
            due(10, period.call(with(TEN), 0));
            CutleryOrchestra x = with(TEN);
            x.removeLast(0);
            due(9, period.call(x, 0));
        });
        test(promise, NO_NOTES, () -> {
            thrown(Check.ELEMENT, () -> period.call(Check.withParts(1), 0));
            thrown(Check.ELEMENT, () -> period.call(with(TEN, ""), 1));
            CutleryOrchestra x = with("1*1");
            due(1, period.call(x, 0));
            x.removeLast(0);
            thrown(Check.ELEMENT, () -> period.call(x, 0));
            changesNothing(Check.ELEMENT, States::busy, y -> period.call(y, 2));
        });
    }

    private static int themeOf(boolean byTrying, CutleryOrchestra x, int first, int second) {
        return byTrying ? x.commonThemeByTrying(first, second) : x.commonTheme(first, second);
    }

    private void dueTheme(boolean byTrying, int want, String one, String other) {
        due(want, themeOf(byTrying, with(one, other), 0, 1));
        due(want, themeOf(byTrying, with(one, other), 1, 0));
    }

    private void themes(boolean byTrying) {
        dueTheme(byTrying, 1, "0*1", "0*1");
        dueTheme(byTrying, 0, "0*1", "0*2");
        dueTheme(byTrying, 0, "0*1", "1*1");
        dueTheme(byTrying, 0, "0*1", "-*1");
        dueTheme(byTrying, 1, "-*1", "-*1");
        dueTheme(byTrying, 0, "-*1", "-*2");
        dueTheme(byTrying, 1, "1*1 2*1", "2*1 1*1");
        // A note is kept once only, however often the other part has it.
        dueTheme(byTrying, 1, "1*1", "1*1 1*1 1*1");
        dueTheme(byTrying, 2, "1*1 1*1", "1*1 1*1 1*1 1*1 1*1 1*1 1*1 1*1 1*1 1*1");
        // The first and the last note, with others between them.
        dueTheme(byTrying, 2, "1*1 2*1", "1*1 3*1 3*1 3*1 3*1 3*1 3*1 3*1 3*1 2*1");
        dueTheme(byTrying, 1, TEN, "9*1 8*1 7*1 6*1 5*1 4*1 3*1 2*1 1*1 0*1");
        dueTheme(byTrying, 9, TEN, "1*1 2*1 3*1 4*1 5*1 6*1 7*1 8*1 9*1 0*1");
        // To keep the first note that is the same is not always best.
        dueTheme(byTrying, 3, "4*1 1*1 2*1 3*1", "1*1 2*1 3*1 4*1");
    }

    private void theme(int promise, String answer, boolean byTrying) {
        indexArgument(promise, "- `first`: the index of a part", 0, 5, (x, part) -> themeOf(byTrying, x, part, 4));
        test(promise, "- `second`: the index of another part, possibly the same", () -> {
            due(0, themeOf(byTrying, States.five(), 4, 0));
            due(1, themeOf(byTrying, States.five(), 0, 0));
            due(5, themeOf(byTrying, States.five(), 4, 4));
            due(10, themeOf(byTrying, States.full(), 4, 4));
            due(0, themeOf(byTrying, Check.withParts(1), 0, 0));
        });
        test(promise, answer, () -> {
            dueTheme(byTrying, 0, "", "");
            dueTheme(byTrying, 0, "", TEN);
            dueTheme(byTrying, 10, TEN, TEN);
            due(10, themeOf(byTrying, States.full(), 0, 4));
            CutleryOrchestra x = with(TEN, TEN);
            x.removeLast(1);
            due(9, themeOf(byTrying, x, 0, 1));
            due(9, themeOf(byTrying, x, 1, 0));
        });
        test(promise, NO_FIRST_OR_SECOND, () -> {
            noSuchPart((x, part) -> themeOf(byTrying, x, part, 0));
            noSuchPart((x, part) -> themeOf(byTrying, x, 0, part));
            noSuchPart((x, part) -> themeOf(byTrying, x, part, part));
        });
    }
}
