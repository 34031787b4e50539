/** The sentences of promises 13 to 17: ticks. */
final class TickSentences extends SentenceTest {
    private static final String TICK = "- `tick`: the number of a tick, 0 to 999999";
    private static final String NO_TICK = "Throws `IllegalArgumentException` if tick is out of range";
    private static final String NEVER =
        "Throws `NoSuchElementException` if no part has notes, or the number would be greater than 999999";

    TickSentences(Check check, Book book) {
        super(check, book);
    }

    @Override
    void run() {
        noteAt();
        soundingAt();
        chordAt();
        together();
    }

    /** Parts of 6 and 4 ticks, a part without notes, and one of rests alone. */
    private static CutleryOrchestra fewTicks() {
        CutleryOrchestra x = Check.withParts(4);
        Check.add(x, 0, "35*1 -*3 0*2");
        Check.add(x, 1, "35*3 -*1");
        Check.add(x, 3, "-*12");
        return x;
    }

    private void noteAt() {
        test(13, "Returns the note of a part that is played in a tick.", () -> {
            CutleryOrchestra x = fewTicks();
            int[] notes = {0, 1, 1, 1, 2, 2};
            for (int tick = 0; tick < 19; tick++) {
                due(notes[tick % 6], x.noteAt(0, tick));
            }
            due(0, x.noteAt(3, 999999));
            CutleryOrchestra y = Check.withParts(1);
            y.addNote(0, 1, 1);
            due(0, y.noteAt(0, 0));
            due(0, y.noteAt(0, 999999));
        });
        partArgument(13, 0, 1, (x, part) -> x.noteAt(part, 12));
        range(13, TICK, 0, 0, 999999, 1, TickSentences::fewTicks, (x, tick) -> x.noteAt(0, tick));
        test(13, "Returns the index of the note.", () -> {
            CutleryOrchestra x = States.full();
            due(0, x.noteAt(0, 11));
            due(1, x.noteAt(0, 12));
            due(9, x.noteAt(0, 119));
            // Played again from its beginning.
            due(0, x.noteAt(0, 120));
            due(9, x.noteAt(0, 239));
            due(3, x.noteAt(0, 999999));
        });
        test(13, NO_TICK, () -> refusesNumbers(States::busy, (x, tick) -> x.noteAt(0, tick), -1, 1000000));
        test(13, "Throws `NoSuchElementException` if the part has no notes", () -> {
            thrown(Check.ELEMENT, () -> fewTicks().noteAt(2, 0));
            thrown(Check.ELEMENT, () -> fewTicks().noteAt(2, 999999));
            CutleryOrchestra x = Check.withParts(1);
            x.addRest(0, 1);
            due(0, x.noteAt(0, 0));
            x.removeLast(0);
            thrown(Check.ELEMENT, () -> x.noteAt(0, 0));
            changesNothing(Check.ELEMENT, States::busy, y -> y.noteAt(2, 0));
        });
    }

    private void soundingAt() {
        test(14, "Returns the number of parts that sound in a tick.", () -> {
            int[] sounding = {2, 1, 1, 0, 2, 2, 2, 0, 1, 1, 2, 1};
            for (int tick = 0; tick < 25; tick++) {
                due(sounding[tick % 12], fewTicks().soundingAt(tick));
            }
        });
        range(14, TICK, 0, 2, 999999, 0, TickSentences::fewTicks, (x, tick) -> x.soundingAt(tick));
        test(14, "Returns the number of parts.", () -> {
            due(0, new CutleryOrchestra().soundingAt(0));
            due(0, Check.withParts(5).soundingAt(999999));
            due(5, States.full().soundingAt(0));
            due(5, States.full().soundingAt(999999));
        });
        test(14, NO_TICK, () -> refusesNumbers(States::busy, (x, tick) -> x.soundingAt(tick), -1, 1000000));
    }

    private void chordAt() {
        test(15, "Returns the chord of a tick: the sum of 2 to the power p over all different pitches p that sound in"
            + " it.", () -> {
            long top = 1L << 35;
            // A pitch that sounds twice counts once.
            long[] chords = {top, top, top, 0, top + 1, top + 1, top, 0, top, top, top + 1, 1};
            for (int tick = 0; tick < 25; tick++) {
                due(chords[tick % 12], fewTicks().chordAt(tick));
            }
            CutleryOrchestra x = Check.withParts(5);
            for (int part = 0; part < 5; part++) {
                x.addNote(part, 31 + part, 1);
            }
            due(31L << 31, x.chordAt(0));
        });
        range(15, TICK, 0, 1L << 35, 999999, 0L, TickSentences::fewTicks, (x, tick) -> x.chordAt(tick));
        test(15, "Returns the chord, 0 if no part sounds.", () -> {
            due(0L, new CutleryOrchestra().chordAt(0));
            due(0L, Check.withParts(5).chordAt(999999));
            due(0L, fewTicks().chordAt(3));
            CutleryOrchestra x = Check.withParts(1);
            x.addNote(0, 0, 1);
            due(1L, x.chordAt(0));
            due(1L << 35, States.full().chordAt(0));
        });
        test(15, NO_TICK, () -> refusesNumbers(States::busy, (x, tick) -> x.chordAt(tick), -1, 1000000));
    }

    private static CutleryOrchestra lasting(int... lengths) {
        CutleryOrchestra x = Check.withParts(5);
        for (int part = 0; part < lengths.length; part++) {
            for (int left = lengths[part]; left > 0; left -= 12) {
                x.addNote(part, 0, Math.min(left, 12));
            }
        }
        return x;
    }

    private void together() {
        On multiples = CutleryOrchestra::togetherAfter;
        On steps = CutleryOrchestra::togetherAfterBySteps;
        test(16, "Returns the least number of ticks, from 1 on, after which all parts with notes end together, found by"
            + " common multiples.", () -> least(multiples));
        test(16, "Returns the number of ticks.", () -> answers(multiples));
        test(16, NEVER, () -> never(multiples));
        test(17, "Returns the same number in a second way: by going on from end to end of the longest part.",
            () -> least(steps));
        test(17, "Returns the same number.", () -> answers(steps));
        test(17, NEVER, () -> never(steps));
    }

    private void least(On together) {
        due(1, together.call(lasting(1)));
        due(1, together.call(lasting(1, 1, 1, 1, 1)));
        due(2, together.call(lasting(1, 2)));
        due(6, together.call(lasting(2, 3)));
        due(12, together.call(lasting(4, 6)));
        due(120, together.call(lasting(120, 60, 40, 1, 120)));
        // Parts without notes do not count, wherever they stand.
        due(35, together.call(lasting(0, 5, 0, 7)));
        // Rests count as notes do.
        CutleryOrchestra x = Check.withParts(2);
        x.addRest(0, 8);
        x.addRest(1, 12);
        due(24, together.call(x));
        x.removeLast(1);
        due(8, together.call(x));
    }

    private void answers(On together) {
        due(1, together.call(lasting(1)));
        due(120, together.call(lasting(120, 120, 120, 120, 120)));
        due(999999, together.call(lasting(11, 27, 37, 91)));
        due(999999, together.call(lasting(91, 37, 0, 27, 11)));
    }

    private void never(On together) {
        thrown(Check.ELEMENT, () -> together.call(new CutleryOrchestra()));
        thrown(Check.ELEMENT, () -> together.call(Check.withParts(5)));
        due(999999, together.call(lasting(11, 27, 37, 91)));
        // 1000008 is the least number beyond it that five parts can have.
        thrown(Check.ELEMENT, () -> together.call(lasting(17, 19, 43, 72)));
        thrown(Check.ELEMENT, () -> together.call(lasting(113, 109, 107, 103, 101)));
        thrown(Check.ELEMENT, () -> together.call(lasting(120, 119, 117, 113, 109)));
        changesNothing(Check.ELEMENT, () -> lasting(17, 19, 43, 72), together);
        CutleryOrchestra x = Check.withParts(1);
        x.addNote(0, 1, 1);
        x.removeLast(0);
        thrown(Check.ELEMENT, () -> together.call(x));
    }
}
