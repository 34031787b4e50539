import java.util.EnumSet;
import java.util.List;
import java.util.function.Supplier;

/** The sentences under "Terms" that tell of rejections, changes and exceptions. */
final class RuleSentences extends SentenceTest {
    private static final String TERMS = "Terms";

    RuleSentences(Check check, Book book) {
        super(check, book);
    }

    @Override
    void run() {
        rejections();
        changes();
        exceptions();
    }

    // ---- rejections

    private void rejections() {
        test(TERMS, "A call is rejected for the first reason that applies, in the order in which its method names"
            + " them.", () -> {
            // Each method names one reason alone; of commands that would be rejected, the first one counts.
            CutleryOrchestra x = States.crowded();
            thrown(Check.REJECTED, () -> Check.run(x, "bar 9;note 0 0 1;part;move 0 1;cue 0>1"));
            due(CutleryOrchestra.COMMAND_REJECTED, x.rejectionReason());
            due(1, x.rejectionDetail());
            due(CutleryOrchestra.NOTE_LIMIT, x.causeReason());
        });
        test(TERMS, "Every reason is a constant, and has a detail that is described there.", () -> {
            int[] constants = {
                CutleryOrchestra.PART_LIMIT, CutleryOrchestra.NOTE_LIMIT, CutleryOrchestra.NO_NOTES,
                CutleryOrchestra.TOO_HIGH_OR_LOW, CutleryOrchestra.SAME_CUE, CutleryOrchestra.NO_CUE,
                CutleryOrchestra.TEMPO_LIMIT, CutleryOrchestra.SILENT, CutleryOrchestra.COMMAND_REJECTED,
            };
            for (int i = 0; i < 9; i++) {
                due(i + 1, constants[i]);
            }
        });
        test(TERMS, "A rejected call changes nothing but the latest rejection.", () -> {
            Supplier<CutleryOrchestra> noNotes = () -> Check.withParts(3);
            leavesAllButTheRejection(States::full, CutleryOrchestra::addPart);
            leavesAllButTheRejection(States::full, x -> x.addNote(2, 0, 1));
            leavesAllButTheRejection(States::full, x -> x.addRest(2, 1));
            leavesAllButTheRejection(States::busy, x -> x.removeLast(2));
            leavesAllButTheRejection(States::full, x -> x.transpose(2, 1));
            leavesAllButTheRejection(States::full, x -> x.setCue(2, 3));
            leavesAllButTheRejection(States::busy, x -> x.removeCue(1));
            leavesAllButTheRejection(States::full, x -> x.setTempo(6, 60));
            leavesAllButTheRejection(noNotes, x -> x.play(1));
            leavesAllButTheRejection(States::ready, x -> Check.run(x, "bar 9;play 1;note 2 1 1;part;alone 1"));
            leavesAllButTheRejection(States::crowded, x -> Check.run(x, "last 0;rest 0 1;alone 2;tempo 5 99;part"));
        });
    }

    private void leavesAllButTheRejection(Supplier<CutleryOrchestra> maker, On call) {
        changesNothing(Check.REJECTED, maker, call, EnumSet.of(States.Look.REJECTION));
    }

    // ---- changes

    private void changes() {
        test(TERMS, "A change is a call of addPart, addNote, addRest, removeLast, transpose, setTuning, setCue,"
            + " removeCue, setBar, setTempo, play or execute that returns a value, also if nothing is different after"
            + " it.", () -> {
            for (On change : changesOfBusy()) {
                dueUndoable(1, change);
            }
            // Nothing is different after these.
            dueUndoable(1, x -> x.transpose(0, 0));
            dueUndoable(1, x -> x.transpose(2, 35));
            dueUndoable(1, x -> x.setTuning(0, 3, 2));
            dueUndoable(1, x -> x.setBar(5));
            dueUndoable(1, x -> x.setTempo(4, 80));
            dueUndoable(1, x -> Check.run(x, "bar 5"));
            // These return no value, or are no changes.
            dueUndoable(0, x -> Check.answer(() -> x.setCue(0, 2)));
            dueUndoable(0, x -> Check.answer(() -> x.setBar(0)));
            dueUndoable(0, x -> Check.answer(() -> x.addRest(3, 1)));
            dueUndoable(0, x -> Check.answer(x::execute));
            dueUndoable(0, x -> Check.answer(() -> Check.run(x, "bar 9;bar 0")));
            dueUndoable(0, x -> x.appendInput(' ') + x.writePart(0) + x.solosAhead(1) + x.saveSnapshot());
            dueUndoable(0, CutleryOrchestra::isConsistent);
            dueUndoable(0, CutleryOrchestra::restoreSnapshot);
        });
        test(TERMS, "The latest 8 changes can be undone.", () -> {
            for (int count = 0; count <= changesOfBusy().size(); count++) {
                dueUndone(count);
            }
        });
        test(TERMS, "Undo and the snapshot cover everything but the input, the output, the latest rejection and the"
            + " latest syntax error.", () -> {
            dueCovered(x -> x.undo() + x.undo());
            dueCovered(CutleryOrchestra::restoreSnapshot);
        });
    }

    /** A busy object whose changes can't be undone any more, but for the ones that follow. */
    private static CutleryOrchestra withoutPast() {
        CutleryOrchestra x = States.ready();
        x.setBar(5);
        x.saveSnapshot();
        x.restoreSnapshot();
        return x;
    }

    private static List<On> changesOfBusy() {
        return List.of(CutleryOrchestra::addPart, x -> x.addNote(2, 1, 1), x -> x.addRest(2, 1), x -> x.removeLast(0),
            x -> x.transpose(0, 1), x -> x.setTuning(0, 99, 98), x -> x.setCue(1, 0), x -> x.removeCue(0),
            x -> x.setBar(48), x -> x.setTempo(2, 99), x -> x.play(1),
            x -> Check.run(x, "part;note 0 1 1;bar 7;play 2;alone 2"));
    }

    private void dueUndoable(int count, On call) {
        CutleryOrchestra x = withoutPast();
        String before = States.told(x);
        call.call(x);
        for (int left = count - 1; left >= 0; left--) {
            due(left, x.undo());
        }
        thrown(Check.STATE, x::undo);
        due(before, States.told(x));
        due(States.counts(withoutPast()), States.counts(x));
    }

    private static CutleryOrchestra after(int count) {
        CutleryOrchestra x = withoutPast();
        for (int i = 0; i < count; i++) {
            changesOfBusy().get(i).call(x);
        }
        return x;
    }

    private void dueUndone(int count) {
        int undoable = Math.min(count, 8);
        CutleryOrchestra x = after(count);
        for (int i = 1; i <= undoable; i++) {
            due(undoable - i, x.undo());
            CutleryOrchestra y = after(count);
            for (int j = 0; j < i; j++) {
                y.undo();
            }
            CutleryOrchestra before = after(count - i);
            due(States.told(before), States.told(y));
            due(States.counts(before), States.counts(y));
        }
        thrown(Check.STATE, x::undo);
        due(States.told(after(count - undoable)), States.told(x));
    }

    /** All data are changed, and all that is not covered; then the call brings the data back, and nothing else. */
    private void dueCovered(On bringBack) {
        CutleryOrchestra x = States.ready();
        x.saveSnapshot();
        String data = States.told(x);
        Check.run(x, "part;note 3 1 1;last 1;move 1 3;tune 0 7/3;cue 1>0;alone 2");
        Check.run(x, "rest 3 5;cue 3>0;cue 0>3;bar 11;tempo 4 99;tempo 2 31;play 9");
        thrown(Check.REJECTED, () -> Check.run(x, "bar 9;cue 1>0"));
        thrown(Check.ARGUMENT, () -> Check.run(x, "ba"));
        x.writePart(1);
        String output = States.output(x);
        Check.type(x, "bar 1");
        bringBack.call(x);
        due(data, States.told(x));
        due(output, States.output(x));
        due("9 1 5", States.rejection(x));
        due(2, x.syntaxErrorOffset());
        due(6, x.appendInput('7'));
        due(1, x.execute());
        due(17, x.barLength());
        due(States.counts(States.ready()), States.counts(x));
    }

    // ---- exceptions

    private void exceptions() {
        test(TERMS, "A call that throws an exception changes nothing, except where this is stated; an exception other"
            + " than UnsupportedOperationException does not change the latest rejection.", this::thrownAlone);
        test(TERMS, "If several exceptions of a method apply, the one that is listed first is thrown.",
            this::thrownTogether);
    }

    private void thrownAlone() {
        changesNothing(Check.INDEX, States::busy, x -> x.addNote(3, 0, 1));
        changesNothing(Check.ARGUMENT, States::busy, x -> x.addNote(0, 36, 1));
        changesNothing(Check.ARGUMENT, States::busy, x -> x.addRest(0, 13));
        changesNothing(Check.INDEX, States::busy, x -> x.removeLast(3));
        changesNothing(Check.ARGUMENT, States::busy, x -> x.transpose(0, -36));
        changesNothing(Check.ELEMENT, States::busy, x -> x.pitchOf(0, 1));
        changesNothing(Check.ELEMENT, States::busy, x -> x.noteAt(2, 0));
        changesNothing(Check.ELEMENT, () -> Check.withParts(2), CutleryOrchestra::togetherAfter);
        changesNothing(Check.ELEMENT, States::busy, x -> x.period(2));
        changesNothing(Check.INDEX, States::busy, x -> x.commonTheme(0, 3));
        changesNothing(Check.ARGUMENT, States::busy, x -> x.setTuning(0, 1, 100));
        changesNothing(Check.ARGUMENT, States::busy, x -> x.nearestNumerator(0, 21));
        changesNothing(Check.ELEMENT, States::busy, x -> x.partByTuning(3));
        changesNothing(Check.ARGUMENT, States::busy, x -> x.setCue(0, 0));
        changesNothing(Check.INDEX, States::busy, x -> x.removeCue(3));
        changesNothing(Check.ELEMENT, States::full, x -> x.cueDepth(0));
        changesNothing(Check.ARGUMENT, States::busy, x -> x.setBar(49));
        changesNothing(Check.ARGUMENT, States::busy, x -> x.setTempo(4, 241));
        changesNothing(Check.ARGUMENT, States::busy, x -> x.play(21));
        changesNothing(Check.ARITHMETIC, States::busy, x -> x.meanPitch(2));
        changesNothing(Check.ARITHMETIC, States::busy, x -> x.restShare(2));
        changesNothing(Check.INDEX, States::busy, x -> x.writePart(3));
        changesNothing(Check.STATE, States::full, x -> x.appendInput('a'));
        changesNothing(Check.STATE, States::five, CutleryOrchestra::restoreSnapshot);
        // It is stated that the input is empty after execute, and that a syntax error has its offset.
        changesNothing(Check.STATE, States::ready, x -> Check.run(x, "bar 9;part;bar 49"));
        changesNothing(Check.ARGUMENT, States::ready, x -> Check.run(x, "bar 9;"), EnumSet.of(States.Look.ERROR));
    }

    private void thrownTogether() {
        dueFirst(Check.INDEX, States::full, x -> x.addNote(5, 36, 13));
        dueFirst(Check.ARGUMENT, States::full, x -> x.addNote(0, 36, 1));
        dueFirst(Check.ARGUMENT, States::full, x -> x.addNote(0, 0, 13));
        dueFirst(Check.INDEX, States::full, x -> x.addRest(5, 13));
        dueFirst(Check.ARGUMENT, States::full, x -> x.addRest(0, 0));
        dueFirst(Check.INDEX, States::full, x -> x.transpose(5, 36));
        dueFirst(Check.ARGUMENT, States::full, x -> x.transpose(0, 36));
        dueFirst(Check.INDEX, States::full, x -> x.noteAt(5, 1000000));
        dueFirst(Check.ARGUMENT, States::busy, x -> x.noteAt(2, 1000000));
        dueFirst(Check.INDEX, States::full, x -> x.setTuning(5, 0, 100));
        dueFirst(Check.INDEX, States::full, x -> x.nearestNumerator(5, 21));
        dueFirst(Check.INDEX, States::full, x -> x.nearestDenominator(5, 0));
        dueFirst(Check.INDEX, States::full, x -> x.nearestDenominatorByTrying(5, 21));
        dueFirst(Check.INDEX, States::full, x -> x.setCue(5, 5));
        dueFirst(Check.INDEX, States::full, x -> x.setCue(-1, -1));
        dueFirst(Check.ARGUMENT, States::full, x -> x.setTempo(1000, 60));
        dueFirst(Check.ARGUMENT, States::full, x -> x.setTempo(999, 241));
        dueFirst(Check.ARGUMENT, CutleryOrchestra::new, x -> x.play(0));
        dueFirst(Check.ARGUMENT, CutleryOrchestra::new, x -> x.play(21));
        dueFirst(Check.ARGUMENT, States::full, x -> x.appendInput((char) 127));
        // A syntax error counts ahead of commands that fail or are rejected; of these, the first one counts.
        dueFirst(Check.ARGUMENT, States::crowded, x -> Check.run(x, "bar 0;part;x"));
        dueFirst(Check.ARGUMENT, States::crowded, x -> Check.run(x, "part;bar 0;"));
        dueFirst(Check.STATE, States::crowded, x -> Check.run(x, "bar 0;part"));
        dueFirst(Check.REJECTED, States::crowded, x -> Check.run(x, "part;bar 0"));
        // Of one command, too, its method's exceptions count in their order.
        dueFirst(Check.STATE, States::crowded, x -> Check.run(x, "note 0 36 1"));
        dueFirst(Check.STATE, States::crowded, x -> Check.run(x, "rest 0 13"));
        dueFirst(Check.STATE, States::crowded, x -> Check.run(x, "move 0 36"));
        dueFirst(Check.STATE, States::crowded, x -> Check.run(x, "tempo 999 241"));
        dueFirst(Check.STATE, CutleryOrchestra::new, x -> Check.run(x, "play 21"));
    }

    private void dueFirst(Class<?> type, Supplier<CutleryOrchestra> maker, On call) {
        CutleryOrchestra x = maker.get();
        String rejection = States.rejection(x);
        thrown(type, () -> call.call(x));
        due(type != Check.REJECTED, rejection.equals(States.rejection(x)));
    }
}
