/** The sentences of the constants: each reason, from where on it applies, and its detail. */
final class ConstantSentences extends SentenceTest {
    ConstantSentences(Check check, Book book) {
        super(check, book);
    }

    @Override
    void run() {
        partLimit();
        noteLimit();
        noNotes();
        tooHighOrLow();
        sameCue();
        noCue();
        tempoLimit();
        silent();
        commandRejected();
    }

    /** The call is rejected for this reason, and the detail is this. */
    private void dueReason(int reason, int detail, CutleryOrchestra x, On call) {
        thrown(Check.REJECTED, () -> call.call(x));
        due(reason, x.rejectionReason());
        due(detail, x.rejectionDetail());
    }

    private void partLimit() {
        test("PART_LIMIT", "Reason: there are 5 parts.", () -> {
            due(1, CutleryOrchestra.PART_LIMIT);
            for (int parts = 0; parts < 5; parts++) {
                due(parts, Check.withParts(parts).addPart());
            }
            dueReason(1, 5, Check.withParts(5), CutleryOrchestra::addPart);
        });
        test("PART_LIMIT", "The detail is 5.", () -> {
            dueReason(CutleryOrchestra.PART_LIMIT, 5, Check.withParts(5), CutleryOrchestra::addPart);
            dueReason(CutleryOrchestra.PART_LIMIT, 5, States.full(), CutleryOrchestra::addPart);
        });
    }

    private static CutleryOrchestra withNotes(int notes) {
        CutleryOrchestra x = Check.withParts(2);
        for (int i = 0; i < notes; i++) {
            x.addNote(1, i, 3);
        }
        return x;
    }

    private void noteLimit() {
        test("NOTE_LIMIT", "Reason: there are 10 notes in the part.", () -> {
            due(2, CutleryOrchestra.NOTE_LIMIT);
            due(10, withNotes(9).addNote(1, 0, 1));
            due(10, withNotes(9).addRest(1, 1));
            dueReason(2, 30, withNotes(10), x -> x.addNote(1, 0, 1));
            dueReason(2, 30, withNotes(10), x -> x.addRest(1, 1));
            due(1, withNotes(10).addNote(0, 0, 1));
        });
        test("NOTE_LIMIT", "The detail is the length of the part.", () -> {
            CutleryOrchestra least = Check.withParts(1);
            for (int i = 0; i < 10; i++) {
                least.addRest(0, 1);
            }
            dueReason(CutleryOrchestra.NOTE_LIMIT, 10, least, x -> x.addRest(0, 12));
            dueReason(CutleryOrchestra.NOTE_LIMIT, 120, States.full(), x -> x.addNote(0, 0, 1));
        });
    }

    private void noNotes() {
        test("NO_NOTES", "Reason: the part has no notes.", () -> {
            due(3, CutleryOrchestra.NO_NOTES);
            dueReason(3, 1, withNotes(0), x -> x.removeLast(1));
            due(0, withNotes(1).removeLast(1));
            dueReason(3, 0, withNotes(1), x -> x.removeLast(0));
        });
        test("NO_NOTES", "The detail is its index.", () -> {
            dueReason(CutleryOrchestra.NO_NOTES, 0, Check.withParts(5), x -> x.removeLast(0));
            dueReason(CutleryOrchestra.NO_NOTES, 4, Check.withParts(5), x -> x.removeLast(4));
        });
    }

    private static CutleryOrchestra lowAndHigh() {
        CutleryOrchestra x = Check.withParts(1);
        Check.add(x, 0, "-*1 5*1 30*1 30*1 5*1 4*1 31*1");
        return x;
    }

    private void tooHighOrLow() {
        test("TOO_HIGH_OR_LOW", "Reason: a pitch would be less than 0 or greater than 35.", () -> {
            due(4, CutleryOrchestra.TOO_HIGH_OR_LOW);
            due(6, lowAndHigh().transpose(0, -4));
            due(6, lowAndHigh().transpose(0, 4));
            dueReason(4, 5, lowAndHigh(), x -> x.transpose(0, -5));
            dueReason(4, 6, lowAndHigh(), x -> x.transpose(0, 5));
        });
        test("TOO_HIGH_OR_LOW", "The detail is the index of the first such note.", () -> {
            dueReason(CutleryOrchestra.TOO_HIGH_OR_LOW, 1, lowAndHigh(), x -> x.transpose(0, -6));
            dueReason(CutleryOrchestra.TOO_HIGH_OR_LOW, 2, lowAndHigh(), x -> x.transpose(0, 6));
            dueReason(CutleryOrchestra.TOO_HIGH_OR_LOW, 1, lowAndHigh(), x -> x.transpose(0, 35));
            dueReason(CutleryOrchestra.TOO_HIGH_OR_LOW, 0, States.full(), x -> x.transpose(0, 1));
            CutleryOrchestra last = Check.withParts(1);
            Check.add(last, 0, "-*1 -*1 -*1 -*1 -*1 -*1 -*1 -*1 -*1 35*1");
            dueReason(CutleryOrchestra.TOO_HIGH_OR_LOW, 9, last, x -> x.transpose(0, 1));
        });
    }

    private void sameCue() {
        test("SAME_CUE", "Reason: the part takes its cue from this part already.", () -> {
            due(5, CutleryOrchestra.SAME_CUE);
            CutleryOrchestra x = Check.withParts(3);
            x.setCue(0, 1);
            dueReason(5, 1, x, y -> y.setCue(0, 1));
            // Neither the way back nor another part is the same.
            due(2, x.setCue(1, 0));
            due(2, x.setCue(0, 2));
            due(2, x.setCue(0, 1));
            x.removeCue(0);
            due(2, x.setCue(0, 1));
        });
        test("SAME_CUE", "The detail is the number of parts with a cue.", () -> {
            CutleryOrchestra x = Check.withParts(5);
            for (int part = 0; part < 5; part++) {
                int other = (part + 1) % 5;
                x.setCue(part, other);
                int cued = part;
                dueReason(CutleryOrchestra.SAME_CUE, part + 1, x, y -> y.setCue(cued, other));
            }
        });
    }

    private void noCue() {
        test("NO_CUE", "Reason: the part has no cue.", () -> {
            due(6, CutleryOrchestra.NO_CUE);
            CutleryOrchestra x = Check.withParts(2);
            dueReason(6, 0, x, y -> y.removeCue(0));
            x.setCue(0, 1);
            dueReason(6, 1, x, y -> y.removeCue(1));
            due(0, x.removeCue(0));
            dueReason(6, 0, x, y -> y.removeCue(0));
        });
        test("NO_CUE", "The detail is the number of parts with a cue.", () -> {
            CutleryOrchestra x = Check.withParts(5);
            for (int part = 0; part < 4; part++) {
                dueReason(CutleryOrchestra.NO_CUE, part, x, y -> y.removeCue(4));
                x.setCue(part, 4);
            }
            dueReason(CutleryOrchestra.NO_CUE, 4, x, y -> y.removeCue(4));
        });
    }

    private static CutleryOrchestra withTempos(int... bars) {
        CutleryOrchestra x = new CutleryOrchestra();
        for (int bar : bars) {
            x.setTempo(bar, 100);
        }
        return x;
    }

    private void tempoLimit() {
        test("TEMPO_LIMIT", "Reason: tempos are set for 6 bars, and not for this one.", () -> {
            due(7, CutleryOrchestra.TEMPO_LIMIT);
            due(6, withTempos(1, 2, 3, 4).setTempo(5, 60));
            dueReason(7, 5, withTempos(1, 2, 3, 4, 5), x -> x.setTempo(6, 60));
            for (int bar = 0; bar <= 5; bar++) {
                due(6, withTempos(1, 2, 3, 4, 5).setTempo(bar, 60));
            }
            dueReason(7, 50, withTempos(10, 20, 30, 40, 50), x -> x.setTempo(5, 60));
        });
        test("TEMPO_LIMIT", "The detail is the greatest of these bars.", () -> {
            dueReason(CutleryOrchestra.TEMPO_LIMIT, 999, withTempos(999, 1, 2, 3, 4), x -> x.setTempo(998, 60));
            dueReason(CutleryOrchestra.TEMPO_LIMIT, 5, withTempos(3, 5, 1, 4, 2), x -> x.setTempo(999, 60));
            dueReason(CutleryOrchestra.TEMPO_LIMIT, 700, withTempos(300, 700, 1, 4, 2), x -> x.setTempo(299, 60));
        });
    }

    private void silent() {
        test("SILENT", "Reason: no part has notes.", () -> {
            due(8, CutleryOrchestra.SILENT);
            dueReason(8, 0, new CutleryOrchestra(), x -> x.play(1));
            dueReason(8, 2, withNotes(0), x -> x.play(20));
            due(8, withNotes(1).play(1));
            // A rest is a note.
            CutleryOrchestra x = Check.withParts(5);
            x.addRest(4, 1);
            due(0, x.play(1));
        });
        test("SILENT", "The detail is the number of parts.", () -> {
            for (int parts = 0; parts <= 5; parts++) {
                dueReason(CutleryOrchestra.SILENT, parts, Check.withParts(parts), x -> x.play(1));
            }
        });
    }

    private void commandRejected() {
        test("COMMAND_REJECTED", "Reason: a command is rejected.", () -> {
            due(9, CutleryOrchestra.COMMAND_REJECTED);
            due(1, Check.run(Check.withParts(4), "part"));
            dueReason(9, 0, Check.withParts(5), x -> Check.run(x, "part"));
        });
        test("COMMAND_REJECTED", "The detail is the number of the command, from 0.", () -> {
            dueReason(9, 0, Check.withParts(5), x -> Check.run(x, "part;part;bar 9"));
            dueReason(9, 1, Check.withParts(4), x -> Check.run(x, "part;part;bar 9"));
            dueReason(9, 2, Check.withParts(1), x -> Check.run(x, "bar 9;bar 8;last 0"));
            dueReason(9, 10, new CutleryOrchestra(),
                x -> Check.run(x, "part;part;part;part;part;bar 1;bar 2;bar 3;bar 4;bar 5;part"));
        });
        test("COMMAND_REJECTED", "The reason for which the method of this command rejects it is the cause.", () -> {
            dueCause(CutleryOrchestra.PART_LIMIT, States.crowded(), "part");
            dueCause(CutleryOrchestra.NOTE_LIMIT, States.crowded(), "note 0 0 1");
            dueCause(CutleryOrchestra.NOTE_LIMIT, States.crowded(), "rest 4 12");
            dueCause(CutleryOrchestra.NO_NOTES, Check.withParts(1), "last 0");
            dueCause(CutleryOrchestra.TOO_HIGH_OR_LOW, States.crowded(), "move 4 1");
            dueCause(CutleryOrchestra.SAME_CUE, States.crowded(), "cue 4>0");
            dueCause(CutleryOrchestra.NO_CUE, Check.withParts(1), "alone 0");
            dueCause(CutleryOrchestra.TEMPO_LIMIT, States.crowded(), "tempo 999 60");
            dueCause(CutleryOrchestra.SILENT, Check.withParts(1), "play 20");
        });
    }

    private void dueCause(int cause, CutleryOrchestra x, String command) {
        dueReason(CutleryOrchestra.COMMAND_REJECTED, 1, x, y -> Check.run(y, "bar 9;" + command));
        due(cause, x.causeReason());
    }
}
