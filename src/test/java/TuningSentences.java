/** The sentences of promises 22 to 30: tunings. */
final class TuningSentences extends SentenceTest {
    private static final String LIMIT = "- `limit`: the greatest denominator of the fraction, 1 to 20";
    private static final String NO_LIMIT = "Throws `IllegalArgumentException` if limit is out of range";
    private static final String SECOND = "- `second`: the index of another part, possibly the same";
    private static final String NO_FIRST_OR_SECOND =
        "Throws `IndexOutOfBoundsException` if there is no such part, for first or second";

    TuningSentences(Check check, Book book) {
        super(check, book);
    }

    @Override
    void run() {
        setTuning();
        looks();
        nearest();
        intervals();
        order();
    }

    private static CutleryOrchestra tuned(int numerator, int denominator) {
        CutleryOrchestra x = Check.withParts(1);
        x.setTuning(0, numerator, denominator);
        return x;
    }

    private void dueTuning(int top, int bottom, CutleryOrchestra x) {
        due(top, x.tuningNumerator(0));
        due(bottom, x.tuningDenominator(0));
    }

    private void setTuning() {
        test(22, "Sets the tuning of a part to a fraction, which is kept in lowest terms.", () -> {
            dueTuning(1, 1, tuned(1, 1));
            dueTuning(1, 1, tuned(99, 99));
            dueTuning(1, 2, tuned(2, 4));
            dueTuning(2, 1, tuned(98, 49));
            dueTuning(1, 99, tuned(1, 99));
            dueTuning(99, 1, tuned(99, 1));
            dueTuning(99, 98, tuned(99, 98));
            dueTuning(32, 27, tuned(96, 81));
            dueTuning(97, 89, tuned(97, 89));
            CutleryOrchestra x = tuned(97, 89);
            x.setTuning(0, 3, 3);
            dueTuning(1, 1, x);
        });
        partArgument(22, 49, 49, (x, part) -> x.setTuning(part, 98, 49));
        range(22, "- `numerator`: the numerator, 1 to 99", 1, 99, () -> Check.withParts(1),
            (x, numerator) -> x.setTuning(0, numerator, 98), x -> x.tuningNumerator(0));
        range(22, "- `denominator`: the denominator, 1 to 99", 1, 99, () -> Check.withParts(1),
            (x, denominator) -> x.setTuning(0, 98, denominator), x -> x.tuningDenominator(0));
        test(22, "Returns the greatest common divisor of both numbers.", () -> {
            CutleryOrchestra x = Check.withParts(1);
            due(1, x.setTuning(0, 1, 1));
            due(99, x.setTuning(0, 99, 99));
            due(1, x.setTuning(0, 99, 98));
            due(1, x.setTuning(0, 89, 55));
            due(49, x.setTuning(0, 49, 98));
            due(49, x.setTuning(0, 98, 49));
            due(12, x.setTuning(0, 84, 36));
        });
        test(22, "Throws `IllegalArgumentException` if numerator or denominator is out of range", () -> {
            refusesNumbers(States::busy, (x, numerator) -> x.setTuning(0, numerator, 1), 0, 100, -1);
            refusesNumbers(States::busy, (x, denominator) -> x.setTuning(0, 1, denominator), 0, 100, -1);
            refusesNumbers(States::busy, (x, both) -> x.setTuning(0, both, both), 0, 100, -1);
        });
    }

    private void looks() {
        test(23, "Returns the numerator of the tuning of a part.", () -> {
            due(3, States.five().tuningNumerator(1));
            due(2, States.five().tuningNumerator(2));
        });
        partArgument(23, 1, 99, (x, part) -> x.tuningNumerator(part));
        test(23, "Returns the numerator.", () -> {
            due(1, Check.withParts(1).tuningNumerator(0));
            due(1, tuned(1, 99).tuningNumerator(0));
            due(99, tuned(99, 1).tuningNumerator(0));
        });
        test(24, "Returns the denominator of the tuning of a part.", () -> {
            due(2, States.five().tuningDenominator(1));
            due(3, States.five().tuningDenominator(2));
        });
        partArgument(24, 1, 98, (x, part) -> x.tuningDenominator(part));
        test(24, "Returns the denominator.", () -> {
            due(1, Check.withParts(1).tuningDenominator(0));
            due(1, tuned(99, 1).tuningDenominator(0));
            due(99, tuned(1, 99).tuningDenominator(0));
        });
    }

    private void nearest() {
        test(25, "Returns the numerator of the nearest fraction to the tuning of a part.", () -> {
            due(7, tuned(99, 70).nearestNumerator(0, 11));
            due(17, tuned(99, 70).nearestNumerator(0, 12));
            due(17, tuned(17, 12).nearestNumerator(0, 20));
        });
        partArgument(25, 1, 1, (x, part) -> x.nearestNumerator(part, 20));
        range(25, LIMIT, 1, 1, 20, 27, () -> tuned(98, 73), (x, limit) -> x.nearestNumerator(0, limit));
        test(25, "Returns the numerator.", () -> {
            due(0, tuned(1, 99).nearestNumerator(0, 20));
            due(0, tuned(1, 2).nearestNumerator(0, 1));
            due(99, tuned(99, 1).nearestNumerator(0, 20));
            due(49, tuned(99, 2).nearestNumerator(0, 1));
        });
        test(25, NO_LIMIT, () -> refusesNumbers(States::busy, (x, limit) -> x.nearestNumerator(0, limit), 0, 21, -1));
        OnNumberOfLimit descent = CutleryOrchestra::nearestDenominator;
        OnNumberOfLimit trial = CutleryOrchestra::nearestDenominatorByTrying;
        test(26, "Returns the denominator of the nearest fraction to the tuning of a part, found by going down between"
            + " two fractions that come nearer from both sides.", () -> denominators(descent));
        denominator(26, "Returns the denominator.", descent);
        test(27, "Returns the same denominator in a second way: by trying all denominators.",
            () -> denominators(trial));
        denominator(27, "Returns the same denominator.", trial);
    }

    private interface OnNumberOfLimit {
        int call(CutleryOrchestra x, int part, int limit);
    }

    private void denominators(OnNumberOfLimit nearest) {
        due(3, nearest.call(tuned(98, 73), 0, 19));
        due(20, nearest.call(tuned(98, 73), 0, 20));
        due(5, nearest.call(tuned(99, 70), 0, 11));
        due(12, nearest.call(tuned(99, 70), 0, 12));
        due(19, nearest.call(tuned(18, 19), 0, 19));
        due(1, nearest.call(tuned(18, 19), 0, 8));
        due(18, nearest.call(tuned(18, 19), 0, 18));
        due(20, nearest.call(tuned(1, 20), 0, 20));
        due(20, nearest.call(tuned(99, 20), 0, 20));
        // 1/40 is as near to 0/1 as to 1/20; 1/39 is not.
        due(1, nearest.call(tuned(1, 40), 0, 20));
        due(20, nearest.call(tuned(1, 39), 0, 20));
        due(1, nearest.call(tuned(39, 40), 0, 20));
        due(20, nearest.call(tuned(38, 39), 0, 20));
    }

    private void denominator(int promise, String answer, OnNumberOfLimit nearest) {
        partArgument(promise, 1, 1, (x, part) -> nearest.call(x, part, 20));
        range(promise, LIMIT, 1, 1, 20, 20, () -> tuned(98, 73), (x, limit) -> nearest.call(x, 0, limit));
        test(promise, answer, () -> {
            due(1, nearest.call(Check.withParts(1), 0, 1));
            due(1, nearest.call(Check.withParts(1), 0, 20));
            due(1, nearest.call(tuned(1, 99), 0, 20));
            due(1, nearest.call(tuned(99, 1), 0, 20));
            due(20, nearest.call(tuned(19, 20), 0, 20));
        });
        test(promise, NO_LIMIT, () -> refusesNumbers(States::busy, (x, limit) -> nearest.call(x, 0, limit), 0, 21, -1));
    }

    private void intervals() {
        test(28, "Returns the numerator of the interval of two parts: of the tuning of the first one divided by the"
            + " tuning of the second one, in lowest terms.", () -> {
            due(9, States.five().intervalNumerator(1, 2));
            due(4, States.five().intervalNumerator(2, 1));
            due(9801, States.five().intervalNumerator(4, 3));
            due(9604, States.five().intervalNumerator(3, 4));
        });
        indexArgument(28, "- `first`: the index of a part", 3, 297, (x, part) -> x.intervalNumerator(part, 2));
        test(28, SECOND, () -> {
            due(3, States.five().intervalNumerator(1, 0));
            due(49, States.five().intervalNumerator(1, 4));
            for (int part = 0; part < 5; part++) {
                due(1, States.five().intervalNumerator(part, part));
            }
        });
        test(28, "Returns the numerator.", () -> {
            due(1, States.five().intervalNumerator(0, 0));
            CutleryOrchestra x = Check.withParts(2);
            x.setTuning(0, 99, 1);
            x.setTuning(1, 1, 99);
            due(9801, x.intervalNumerator(0, 1));
            due(1, x.intervalNumerator(1, 0));
        });
        test(28, NO_FIRST_OR_SECOND, () -> {
            noSuchPart((x, part) -> x.intervalNumerator(part, 0));
            noSuchPart((x, part) -> x.intervalNumerator(0, part));
            noSuchPart((x, part) -> x.intervalNumerator(part, part));
        });
        test(29, "Returns the denominator of the interval of two parts.", () -> {
            due(4, States.five().intervalDenominator(1, 2));
            due(9, States.five().intervalDenominator(2, 1));
            due(9604, States.five().intervalDenominator(4, 3));
            due(9801, States.five().intervalDenominator(3, 4));
        });
        indexArgument(29, "- `first`: the index of a part", 2, 196, (x, part) -> x.intervalDenominator(part, 2));
        test(29, SECOND, () -> {
            due(2, States.five().intervalDenominator(1, 0));
            due(33, States.five().intervalDenominator(1, 4));
            for (int part = 0; part < 5; part++) {
                due(1, States.five().intervalDenominator(part, part));
            }
        });
        test(29, "Returns the denominator.", () -> {
            due(1, States.five().intervalDenominator(4, 4));
            CutleryOrchestra x = Check.withParts(2);
            x.setTuning(0, 1, 99);
            x.setTuning(1, 99, 1);
            due(9801, x.intervalDenominator(0, 1));
            due(1, x.intervalDenominator(1, 0));
        });
        test(29, NO_FIRST_OR_SECOND, () -> {
            noSuchPart((x, part) -> x.intervalDenominator(part, 0));
            noSuchPart((x, part) -> x.intervalDenominator(0, part));
            noSuchPart((x, part) -> x.intervalDenominator(part, part));
        });
    }

    private static CutleryOrchestra fiveOf(int... tunings) {
        CutleryOrchestra x = Check.withParts(5);
        for (int part = 0; part < 5; part++) {
            x.setTuning(part, tunings[2 * part], tunings[2 * part + 1]);
        }
        return x;
    }

    private void dueOrder(CutleryOrchestra x, int... parts) {
        for (int position = 0; position < parts.length; position++) {
            due(parts[position], x.partByTuning(position));
        }
    }

    private void order() {
        test(30, "Returns a part in the order of tunings, the greatest tuning first.", () -> {
            dueOrder(fiveOf(1, 99, 99, 1, 1, 1, 97, 98, 98, 97), 1, 4, 2, 3, 0);
            // 98/97 is greater than 99/98 by 1/9506.
            dueOrder(fiveOf(99, 98, 98, 97, 97, 98, 98, 99, 1, 1), 1, 0, 4, 3, 2);
            dueOrder(States.five(), 1, 4, 0, 3, 2);
        });
        test(30, "Of parts with the same tuning, the one with the greater length comes first, then the one with the"
            + " lower index.", () -> {
            dueOrder(fiveOf(1, 1, 2, 2, 99, 99, 1, 1, 3, 3), 0, 1, 2, 3, 4);
            CutleryOrchestra x = Check.withParts(5);
            x.addRest(4, 3);
            x.addRest(2, 1);
            x.addRest(3, 1);
            dueOrder(x, 4, 2, 3, 0, 1);
            // The length counts, not the number of notes.
            x.addRest(3, 1);
            dueOrder(x, 4, 3, 2, 0, 1);
            x.addRest(2, 1);
            dueOrder(x, 4, 2, 3, 0, 1);
            x.setTuning(1, 99, 98);
            dueOrder(x, 1, 4, 2, 3, 0);
        });
        test(30, "- `position`: the position, from 0", () -> {
            due(0, Check.withParts(1).partByTuning(0));
            due(1, States.five().partByTuning(0));
            due(2, States.five().partByTuning(4));
            thrown(Check.ELEMENT, () -> States.five().partByTuning(-1));
            thrown(Check.ELEMENT, () -> States.five().partByTuning(5));
        });
        test(30, "Returns the index of the part.", () -> {
            due(0, fiveOf(2, 1, 1, 1, 1, 1, 1, 1, 1, 1).partByTuning(0));
            due(4, fiveOf(1, 1, 1, 1, 1, 1, 1, 1, 2, 1).partByTuning(0));
        });
        test(30, "Throws `NoSuchElementException` if there is no such position", () -> {
            thrown(Check.ELEMENT, () -> new CutleryOrchestra().partByTuning(0));
            thrown(Check.ELEMENT, () -> Check.withParts(1).partByTuning(1));
            for (int position : EXTREMES) {
                thrown(Check.ELEMENT, () -> States.five().partByTuning(position));
            }
            changesNothing(Check.ELEMENT, States::busy, x -> x.partByTuning(3));
            changesNothing(Check.ELEMENT, States::busy, x -> x.partByTuning(-1));
        });
    }
}
