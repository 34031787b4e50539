/** The sentences of promises 58 to 63: rejections and history. */
final class HistorySentences extends SentenceTest {
    private static final String NO_REJECTION = "Throws `NoSuchElementException` if no call was rejected";

    HistorySentences(Check check, Book book) {
        super(check, book);
    }

    @Override
    void run() {
        rejections();
        causes();
        undo();
        saveSnapshot();
        restoreSnapshot();
    }

    private static CutleryOrchestra rejectedCall() {
        CutleryOrchestra x = Check.withParts(4);
        Check.answer(() -> x.removeLast(3));
        return x;
    }

    private static CutleryOrchestra rejectedCommand() {
        CutleryOrchestra x = rejectedCall();
        Check.answer(() -> Check.run(x, "bar 9;alone 0"));
        return x;
    }

    /** Neither calls that answer nor ones that throw something else are rejections. */
    private static CutleryOrchestra neverRejected() {
        CutleryOrchestra x = Check.withParts(1);
        Check.answer(() -> x.addNote(0, 36, 1));
        Check.answer(() -> x.removeLast(1));
        Check.answer(() -> x.cueOf(0));
        Check.answer(() -> x.meanPitch(0));
        Check.answer(x::restoreSnapshot);
        Check.answer(x::execute);
        Check.answer(() -> Check.run(x, "bar 0"));
        Check.run(x, "bar 9");
        x.undo();
        return x;
    }

    private void rejections() {
        test(58, "Returns the reason of the latest rejection.", () -> {
            CutleryOrchestra x = rejectedCall();
            due(CutleryOrchestra.NO_NOTES, x.rejectionReason());
            thrown(Check.REJECTED, () -> x.play(1));
            due(CutleryOrchestra.SILENT, x.rejectionReason());
            thrown(Check.REJECTED, () -> x.removeLast(0));
            due(CutleryOrchestra.NO_NOTES, x.rejectionReason());
            due(CutleryOrchestra.COMMAND_REJECTED, rejectedCommand().rejectionReason());
        });
        test(58, "Returns the reason, one of the constants.", () -> {
            CutleryOrchestra x = Check.withParts(5);
            thrown(Check.REJECTED, x::addPart);
            due(1, x.rejectionReason());
            thrown(Check.REJECTED, () -> Check.run(x, "part"));
            due(9, x.rejectionReason());
        });
        test(58, NO_REJECTION, () -> {
            thrown(Check.ELEMENT, () -> new CutleryOrchestra().rejectionReason());
            thrown(Check.ELEMENT, () -> neverRejected().rejectionReason());
            changesNothing(Check.ELEMENT, States::full, CutleryOrchestra::rejectionReason);
        });
        test(59, "Returns the detail of the latest rejection.", () -> {
            CutleryOrchestra x = rejectedCall();
            due(3, x.rejectionDetail());
            thrown(Check.REJECTED, () -> x.removeLast(0));
            due(0, x.rejectionDetail());
            thrown(Check.REJECTED, () -> x.play(1));
            due(4, x.rejectionDetail());
            due(1, rejectedCommand().rejectionDetail());
        });
        test(59, "Returns the detail.", () -> {
            CutleryOrchestra x = new CutleryOrchestra();
            thrown(Check.REJECTED, () -> x.play(1));
            due(0, x.rejectionDetail());
            CutleryOrchestra y = States.full();
            thrown(Check.REJECTED, () -> y.addRest(0, 1));
            due(120, y.rejectionDetail());
            CutleryOrchestra z = sixTemposUpTo999();
            thrown(Check.REJECTED, () -> z.setTempo(994, 60));
            due(999, z.rejectionDetail());
        });
        test(59, NO_REJECTION, () -> {
            thrown(Check.ELEMENT, () -> new CutleryOrchestra().rejectionDetail());
            thrown(Check.ELEMENT, () -> neverRejected().rejectionDetail());
            changesNothing(Check.ELEMENT, States::full, CutleryOrchestra::rejectionDetail);
        });
    }

    private static CutleryOrchestra sixTemposUpTo999() {
        CutleryOrchestra x = new CutleryOrchestra();
        for (int bar = 995; bar <= 999; bar++) {
            x.setTempo(bar, 60);
        }
        return x;
    }

    private void causes() {
        test(60, "Returns the reason of the command that caused the latest rejection.", () -> {
            due(CutleryOrchestra.NO_CUE, rejectedCommand().causeReason());
            CutleryOrchestra x = rejectedCommand();
            thrown(Check.REJECTED, () -> Check.run(x, "play 1;alone 0"));
            due(CutleryOrchestra.SILENT, x.causeReason());
        });
        test(60, "Returns the reason, one of the constants.", () -> {
            CutleryOrchestra x = Check.withParts(5);
            thrown(Check.REJECTED, () -> Check.run(x, "part"));
            due(1, x.causeReason());
            thrown(Check.REJECTED, () -> Check.run(x, "play 1"));
            due(8, x.causeReason());
        });
        test(60, "Throws `NoSuchElementException` if no call was rejected, or the latest rejection has another reason"
            + " than COMMAND_REJECTED", () -> {
            thrown(Check.ELEMENT, () -> new CutleryOrchestra().causeReason());
            thrown(Check.ELEMENT, () -> neverRejected().causeReason());
            thrown(Check.ELEMENT, () -> rejectedCall().causeReason());
            CutleryOrchestra x = rejectedCommand();
            thrown(Check.REJECTED, () -> x.removeCue(0));
            thrown(Check.ELEMENT, x::causeReason);
            changesNothing(Check.ELEMENT, States::full, CutleryOrchestra::causeReason);
            changesNothing(Check.ELEMENT, HistorySentences::rejectedCall, CutleryOrchestra::causeReason);
        });
    }

    private static CutleryOrchestra withBars(int changes) {
        CutleryOrchestra x = new CutleryOrchestra();
        for (int ticks = 1; ticks <= changes; ticks++) {
            x.setBar(ticks);
        }
        return x;
    }

    private void undo() {
        test(61, "Undoes the latest change that has not been undone.", () -> {
            CutleryOrchestra x = withBars(3);
            x.undo();
            due(2, x.barLength());
            x.setBar(30);
            x.undo();
            due(2, x.barLength());
            x.undo();
            due(1, x.barLength());
            x.undo();
            due(8, x.barLength());
            x.setBar(40);
            x.undo();
            due(8, x.barLength());
        });
        test(61, "Returns the number of changes that can still be undone.", () -> {
            due(0, withBars(1).undo());
            due(6, withBars(7).undo());
            due(7, withBars(8).undo());
            due(7, withBars(9).undo());
            due(7, withBars(40).undo());
            CutleryOrchestra x = withBars(40);
            for (int left = 7; left >= 0; left--) {
                due(left, x.undo());
            }
            due(32, x.barLength());
        });
        test(61, "Throws `IllegalStateException` if there is none", () -> {
            changesNothing(Check.STATE, CutleryOrchestra::new, CutleryOrchestra::undo);
            changesNothing(Check.STATE, () -> {
                CutleryOrchestra x = withBars(1);
                x.undo();
                return x;
            }, CutleryOrchestra::undo);
            changesNothing(Check.STATE, () -> {
                CutleryOrchestra x = States.full();
                x.restoreSnapshot();
                return x;
            }, CutleryOrchestra::undo);
            CutleryOrchestra x = withBars(20);
            for (int i = 0; i < 8; i++) {
                x.undo();
            }
            thrown(Check.STATE, x::undo);
            due(12, x.barLength());
            x.setBar(5);
            due(0, x.undo());
            thrown(Check.STATE, x::undo);
            due(12, x.barLength());
        });
    }

    private void saveSnapshot() {
        test(62, "Saves a snapshot of the data, in place of an earlier snapshot.", () -> {
            CutleryOrchestra x = Check.withParts(1);
            x.saveSnapshot();
            x.setBar(5);
            x.saveSnapshot();
            x.setBar(6);
            x.restoreSnapshot();
            due(5, x.barLength());
            // What changes after it was saved does not change it.
            CutleryOrchestra y = States.busy();
            y.execute();
            String saved = States.told(y);
            y.saveSnapshot();
            Check.run(y, "part;note 0 1 1;last 1;move 1 3;tune 0 7/3;cue 1>0;alone 2");
            Check.run(y, "rest 3 5;cue 3>0;cue 0>3;bar 11;tempo 4 99;tempo 2 31;play 9");
            y.restoreSnapshot();
            due(saved, States.told(y));
            due(States.counts(States.ready()), States.counts(y));
        });
        test(62, "Returns the number of parts.", () -> {
            due(0, new CutleryOrchestra().saveSnapshot());
            due(1, Check.withParts(1).saveSnapshot());
            due(5, States.full().saveSnapshot());
        });
    }

    private void restoreSnapshot() {
        test(63, "Restores the snapshot, which is kept.", () -> {
            CutleryOrchestra x = Check.withParts(1);
            x.saveSnapshot();
            for (int i = 0; i < 3; i++) {
                x.addNote(0, 1, 1);
                x.play(1);
                x.addPart();
                due(1, x.restoreSnapshot());
                due(0, x.noteCount(0));
                due(0, x.playedTicks());
                due(0, x.soundedTicks(0));
            }
            // A snapshot of nothing.
            CutleryOrchestra y = new CutleryOrchestra();
            y.saveSnapshot();
            y.addPart();
            due(0, y.restoreSnapshot());
            due(0, y.partCount());
            // A snapshot that is restored as soon as it is saved.
            CutleryOrchestra z = States.full();
            z.saveSnapshot();
            z.restoreSnapshot();
            due(States.told(States.full()), States.told(z));
        });
        test(63, "No change can be undone after the call.", () -> {
            CutleryOrchestra x = withBars(20);
            x.saveSnapshot();
            x.restoreSnapshot();
            thrown(Check.STATE, x::undo);
            due(20, x.barLength());
            // Changes after it can be undone.
            x.setBar(21);
            due(0, x.undo());
            due(20, x.barLength());
            thrown(Check.STATE, x::undo);
        });
        test(63, "Returns the number of parts.", () -> {
            CutleryOrchestra x = new CutleryOrchestra();
            x.saveSnapshot();
            x.addPart();
            due(0, x.restoreSnapshot());
            due(5, States.full().restoreSnapshot());
            due(3, States.busy().restoreSnapshot());
        });
        test(63, "Throws `IllegalStateException` if there is no snapshot", () -> {
            changesNothing(Check.STATE, CutleryOrchestra::new, CutleryOrchestra::restoreSnapshot);
            changesNothing(Check.STATE, () -> withBars(20), CutleryOrchestra::restoreSnapshot);
            changesNothing(Check.STATE, States::five, CutleryOrchestra::restoreSnapshot);
        });
    }
}
