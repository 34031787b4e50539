/** The sentences of promises 1 to 12: a new object, parts and notes. */
final class PartSentences extends SentenceTest {
    private static final String NOTE_INDEX = "- `note`: the index of a note of the part";
    private static final String NO_PART_OR_NOTE = "Throws `IndexOutOfBoundsException` if there is no such part or note";

    PartSentences(Check check, Book book) {
        super(check, book);
    }

    @Override
    void run() {
        newObject();
        addPart();
        addNote();
        addRest();
        removeLast();
        transpose();
        counts();
        isRest();
        pitchOf();
        lengthOf();
        partLength();
    }

    private static CutleryOrchestra tenNotes() {
        CutleryOrchestra x = Check.withParts(2);
        Check.add(x, 0, "0*1 -*2 35*12 -*4 4*5 -*6 6*7 -*8 8*9 9*10");
        return x;
    }

    private void newObject() {
        test(1, "Creates an orchestra without parts, with bars of 8 ticks.", () -> {
            CutleryOrchestra x = new CutleryOrchestra();
            due(0, x.partCount());
            due(8, x.barLength());
            due(0, x.playedTicks());
            due(60, x.tempoAt(0));
            due(60, x.tempoAt(999));
            due(0, x.soundingAt(0));
            due(0L, x.chordAt(0));
            due(0, x.solosAhead(20));
            due("", States.output(x));
            thrown(Check.STATE, x::undo);
            thrown(Check.STATE, x::restoreSnapshot);
            thrown(Check.ELEMENT, x::rejectionReason);
            thrown(Check.ELEMENT, x::syntaxErrorOffset);
            due(1, x.appendInput('p'));
            // A second object has nothing of a first one that is in use.
            States.full();
            due(0, new CutleryOrchestra().partCount());
        });
    }

    private void dueAsNew(CutleryOrchestra x, int part) {
        due(0, x.noteCount(part));
        due(0, x.partLength(part));
        due(1, x.tuningNumerator(part));
        due(1, x.tuningDenominator(part));
        thrown(Check.ELEMENT, () -> x.cueOf(part));
        due(0, x.soundedTicks(part));
        due(0, x.soloTicks(part));
    }

    private void addPart() {
        test(2, "Adds a part without notes, with the tuning 1/1 and without a cue.", () -> {
            CutleryOrchestra x = new CutleryOrchestra();
            for (int part = 0; part < 5; part++) {
                x.addPart();
                dueAsNew(x, part);
                x.addNote(part, 1, 1);
                x.setTuning(part, 3, 2);
                if (part > 0) {
                    x.setCue(part, part - 1);
                }
                x.play(1);
            }
            // Nothing is left of a part that was undone.
            for (int i = 0; i < 5; i++) {
                x.undo();
            }
            x.addPart();
            dueAsNew(x, 4);
        });
        test(2, "Returns the index of the part.", () -> {
            CutleryOrchestra x = new CutleryOrchestra();
            for (int i = 0; i < 5; i++) {
                due(i, x.addPart());
            }
        });
        test(2, "Throws `UnsupportedOperationException` if the call is rejected with the reason PART_LIMIT", () -> {
            due(4, Check.withParts(4).addPart());
            rejected(CutleryOrchestra.PART_LIMIT, 5, States::five, CutleryOrchestra::addPart);
            rejected(CutleryOrchestra.PART_LIMIT, 5, States::full, CutleryOrchestra::addPart);
            // A part that is undone leaves room for another one.
            CutleryOrchestra x = Check.withParts(5);
            x.undo();
            due(4, x.addPart());
        });
    }

    private void addNote() {
        test(3, "Adds a note with a pitch at the end of a part.", () -> {
            CutleryOrchestra x = Check.withParts(2);
            for (int i = 0; i < 10; i++) {
                x.addNote(1, 35 - i, i + 1);
                due(35 - i, x.pitchOf(1, i));
                due(i + 1, x.lengthOf(1, i));
                due(false, x.isRest(1, i));
                due(35, x.pitchOf(1, 0));
            }
            due(0, x.noteCount(0));
        });
        partArgument(3, 2, 6, (x, part) -> x.addNote(part, 1, 1));
        range(3, "- `pitch`: the pitch, 0 to 35", 0, 35, () -> Check.withParts(1),
            (x, pitch) -> x.addNote(0, pitch, 1), x -> x.pitchOf(0, 0));
        range(3, "- `length`: the length in ticks, 1 to 12", 1, 12, () -> Check.withParts(1),
            (x, length) -> x.addNote(0, 1, length), x -> x.lengthOf(0, 0));
        test(3, "Returns the number of notes of the part after the call.", () -> {
            CutleryOrchestra x = Check.withParts(1);
            for (int i = 1; i <= 10; i++) {
                due(i, x.addNote(0, 35, 12));
            }
        });
        test(3, "Throws `IllegalArgumentException` if pitch or length is out of range", () -> {
            refusesNumbers(States::busy, (x, pitch) -> x.addNote(0, pitch, 1), -1, 36);
            refusesNumbers(States::busy, (x, length) -> x.addNote(0, 0, length), 0, 13, -1);
            refusesNumbers(States::busy, (x, both) -> x.addNote(0, both, both), -1, 36);
        });
        test(3, "Throws `UnsupportedOperationException` if the call is rejected with the reason NOTE_LIMIT", () -> {
            rejected(CutleryOrchestra.NOTE_LIMIT, 64, PartSentences::tenNotes, x -> x.addNote(0, 0, 1));
            rejected(CutleryOrchestra.NOTE_LIMIT, 120, States::full, x -> x.addNote(4, 35, 12));
            CutleryOrchestra x = tenNotes();
            due(1, x.addNote(1, 0, 1));
            x.removeLast(0);
            due(10, x.addNote(0, 0, 1));
        });
    }

    private void addRest() {
        test(4, "Adds a rest at the end of a part.", () -> {
            CutleryOrchestra x = Check.withParts(2);
            for (int i = 0; i < 10; i++) {
                x.addRest(1, 12 - i);
                due(true, x.isRest(1, i));
                due(12 - i, x.lengthOf(1, i));
                due(12, x.lengthOf(1, 0));
            }
            due(0, x.noteCount(0));
        });
        partArgument(4, 2, 6, (x, part) -> x.addRest(part, 1));
        range(4, "- `length`: the length in ticks, 1 to 12", 1, 12, () -> Check.withParts(1),
            (x, length) -> x.addRest(0, length), x -> x.lengthOf(0, 0));
        test(4, "Returns the number of notes of the part after the call.", () -> {
            CutleryOrchestra x = Check.withParts(1);
            for (int i = 1; i <= 10; i++) {
                due(i, x.addRest(0, 12));
            }
        });
        test(4, "Throws `IllegalArgumentException` if length is out of range",
            () -> refusesNumbers(States::busy, (x, length) -> x.addRest(0, length), 0, 13, -1));
        test(4, "Throws `UnsupportedOperationException` if the call is rejected with the reason NOTE_LIMIT", () -> {
            rejected(CutleryOrchestra.NOTE_LIMIT, 64, PartSentences::tenNotes, x -> x.addRest(0, 12));
            rejected(CutleryOrchestra.NOTE_LIMIT, 120, States::full, x -> x.addRest(0, 1));
            CutleryOrchestra x = tenNotes();
            due(1, x.addRest(1, 1));
            x.removeLast(0);
            due(10, x.addRest(0, 1));
        });
    }

    private void removeLast() {
        test(5, "Removes the last note of a part.", () -> {
            CutleryOrchestra x = tenNotes();
            for (int left = 9; left >= 0; left--) {
                x.removeLast(0);
                due(left, x.noteCount(0));
                int note = left;
                thrown(Check.INDEX, () -> x.isRest(0, note));
            }
            // The first note again is as if no note had been there.
            x.addNote(0, 9, 9);
            due("0(1/1) 9*9", Check.written(x, 0));
            due(1, x.period(0));
        });
        partArgument(5, 0, 34, (x, part) -> x.removeLast(part));
        test(5, "Returns the length of the part after the call.", () -> {
            CutleryOrchestra x = States.full();
            for (int left = 108; left >= 0; left -= 12) {
                due(left, x.removeLast(0));
            }
            due(120, x.partLength(1));
        });
        test(5, "Throws `UnsupportedOperationException` if the call is rejected with the reason NO_NOTES", () -> {
            rejected(CutleryOrchestra.NO_NOTES, 0, () -> Check.withParts(1), x -> x.removeLast(0));
            rejected(CutleryOrchestra.NO_NOTES, 2, States::busy, x -> x.removeLast(2));
            CutleryOrchestra x = States.five();
            due(0, x.removeLast(0));
            thrown(Check.REJECTED, () -> x.removeLast(0));
        });
    }

    private void transpose() {
        test(6, "Adds a number to all pitches of a part.", () -> {
            CutleryOrchestra x = tenNotes();
            x.addNote(1, 17, 1);
            x.removeLast(0);
            x.addNote(0, 7, 1);
            x.transpose(0, 0);
            due("0(1/1) 0*1 -*2 35*12 -*4 4*5 -*6 6*7 -*8 8*9 7*1", Check.written(x, 0));
            x.removeLast(1);
            x.addNote(1, 0, 1);
            x.addNote(1, 0, 2);
            x.transpose(1, 35);
            due("1(1/1) 35*1 35*2", Check.written(x, 1));
            x.transpose(1, -35);
            due("1(1/1) 0*1 0*2", Check.written(x, 1));
            due("0(1/1) 0*1 -*2 35*12 -*4 4*5 -*6 6*7 -*8 8*9 7*1", Check.written(x, 0));
        });
        test(6, "Rests stay rests.", () -> {
            CutleryOrchestra x = Check.withParts(1);
            Check.add(x, 0, "-*1 0*1 -*2");
            x.transpose(0, 35);
            due("0(1/1) -*1 35*1 -*2", Check.written(x, 0));
            x.transpose(0, -35);
            due("0(1/1) -*1 0*1 -*2", Check.written(x, 0));
            x.transpose(0, 1);
            due("0(1/1) -*1 1*1 -*2", Check.written(x, 0));
        });
        partArgument(6, 1, 3, (x, part) -> x.transpose(part, part == 0 ? 1 : -1));
        range(6, "- `by`: the number, -35 to 35", -35, 35, () -> {
            CutleryOrchestra x = Check.withParts(2);
            x.addNote(0, 0, 1);
            x.addNote(1, 35, 1);
            return x;
        }, (x, by) -> x.transpose(by > 0 ? 0 : 1, by), x -> x.pitchOf(0, 0) + x.pitchOf(1, 0) - 35);
        test(6, "Returns the number of pitches that are different after the call.", () -> {
            due(0, Check.withParts(1).transpose(0, 35));
            CutleryOrchestra x = Check.withParts(2);
            x.addRest(0, 1);
            due(0, x.transpose(0, -35));
            for (int i = 0; i < 10; i++) {
                x.addNote(1, i % 2, 1);
            }
            due(0, x.transpose(1, 0));
            due(10, x.transpose(1, 34));
            due(10, x.transpose(1, -34));
            x.removeLast(1);
            due(9, x.transpose(1, 1));
        });
        test(6, "Throws `IllegalArgumentException` if by is out of range",
            () -> refusesNumbers(States::busy, (x, by) -> x.transpose(2, by), -36, 36));
        test(6, "Throws `UnsupportedOperationException` if the call is rejected with the reason"
            + " TOO_HIGH_OR_LOW", () -> {
            rejected(CutleryOrchestra.TOO_HIGH_OR_LOW, 2, PartSentences::tenNotes, x -> x.transpose(0, 1));
            rejected(CutleryOrchestra.TOO_HIGH_OR_LOW, 0, PartSentences::tenNotes, x -> x.transpose(0, -1));
            rejected(CutleryOrchestra.TOO_HIGH_OR_LOW, 2, States::busy, x -> x.transpose(0, 30));
            rejected(CutleryOrchestra.TOO_HIGH_OR_LOW, 0, States::full, x -> x.transpose(4, 1));
            due(2, States.busy().transpose(0, 29));
            due(2, States.busy().transpose(0, -5));
            thrown(Check.REJECTED, () -> States.busy().transpose(0, -6));
        });
    }

    private void counts() {
        test(7, "Returns the number of parts.", () -> {
            CutleryOrchestra x = new CutleryOrchestra();
            due(0, x.partCount());
            for (int i = 1; i <= 5; i++) {
                x.addPart();
                due(i, x.partCount());
            }
            thrown(Check.REJECTED, x::addPart);
            due(5, x.partCount());
        });
        test(8, "Returns the number of notes of a part, rests included.", () -> {
            due(10, tenNotes().noteCount(0));
            CutleryOrchestra x = Check.withParts(1);
            x.addRest(0, 1);
            due(1, x.noteCount(0));
            x.removeLast(0);
            due(0, x.noteCount(0));
        });
        partArgument(8, 1, 5, (x, part) -> x.noteCount(part));
        test(8, "Returns the number of notes.", () -> {
            due(0, Check.withParts(1).noteCount(0));
            CutleryOrchestra x = States.full();
            due(10, x.noteCount(4));
            thrown(Check.REJECTED, () -> x.addRest(4, 1));
            due(10, x.noteCount(4));
        });
    }

    /** Two tests: which notes there are, and which there are not. */
    private void noteArgument(int promise, Object first, Object last, OnNumber call, OnNumber ofPart) {
        test(promise, NOTE_INDEX, () -> {
            due(first, call.call(tenNotes(), 0));
            due(last, call.call(tenNotes(), 9));
            thrown(Check.INDEX, () -> call.call(tenNotes(), -1));
            thrown(Check.INDEX, () -> call.call(tenNotes(), 10));
        });
        test(promise, NO_PART_OR_NOTE, () -> {
            noSuchPart(ofPart);
            // A part without notes, and one whose last note was removed, while another part has more notes.
            thrown(Check.INDEX, () -> call.call(Check.withParts(1), 0));
            thrown(Check.INDEX, () -> ofPart.call(tenNotes(), 1));
            CutleryOrchestra x = tenNotes();
            x.removeLast(0);
            thrown(Check.INDEX, () -> call.call(x, 9));
            for (int note : EXTREMES) {
                thrown(Check.INDEX, () -> call.call(States.five(), note));
            }
            changesNothing(Check.INDEX, States::busy, y -> call.call(y, 3));
            changesNothing(Check.INDEX, States::full, y -> call.call(y, 10));
            changesNothing(Check.INDEX, States::full, y -> call.call(y, -1));
        });
    }

    private void isRest() {
        test(9, "Tells whether a note of a part is a rest.", () -> {
            CutleryOrchestra x = tenNotes();
            for (int note = 0; note < 10; note++) {
                due(note % 2 == 1 && note < 9, x.isRest(0, note));
            }
        });
        indexArgument(9, "- `part`: the index of a part", false, true, (x, part) -> x.isRest(part, part / 4));
        noteArgument(9, false, false, (x, note) -> x.isRest(0, note), (x, part) -> x.isRest(part, 0));
        test(9, "Returns whether it is a rest.", () -> {
            CutleryOrchestra x = Check.withParts(1);
            Check.add(x, 0, "0*1 -*1");
            due(false, x.isRest(0, 0));
            due(true, x.isRest(0, 1));
        });
    }

    private void pitchOf() {
        test(10, "Returns the pitch of a note of a part.", () -> {
            CutleryOrchestra x = tenNotes();
            for (int note = 4; note < 10; note += 2) {
                due(note, x.pitchOf(0, note));
            }
        });
        indexArgument(10, "- `part`: the index of a part", 0, 35, (x, part) -> x.pitchOf(part, 0));
        noteArgument(10, 0, 9, (x, note) -> x.pitchOf(0, note), (x, part) -> x.pitchOf(part, 0));
        test(10, "Returns the pitch.", () -> {
            due(0, tenNotes().pitchOf(0, 0));
            due(35, tenNotes().pitchOf(0, 2));
        });
        test(10, "Throws `NoSuchElementException` if the note is a rest", () -> {
            for (int note = 1; note < 9; note += 2) {
                int rest = note;
                thrown(Check.ELEMENT, () -> tenNotes().pitchOf(0, rest));
            }
            changesNothing(Check.ELEMENT, States::busy, x -> x.pitchOf(0, 1));
        });
    }

    private void lengthOf() {
        test(11, "Returns the length of a note of a part.", () -> {
            CutleryOrchestra x = tenNotes();
            for (int note = 3; note < 10; note++) {
                due(note + 1, x.lengthOf(0, note));
            }
        });
        indexArgument(11, "- `part`: the index of a part", 1, 12, (x, part) -> x.lengthOf(part, 0));
        noteArgument(11, 1, 10, (x, note) -> x.lengthOf(0, note), (x, part) -> x.lengthOf(part, 0));
        test(11, "Returns the length in ticks.", () -> {
            due(1, tenNotes().lengthOf(0, 0));
            due(12, tenNotes().lengthOf(0, 2));
        });
    }

    private void partLength() {
        test(12, "Returns the length of a part: the sum of the lengths of its notes.", () -> {
            CutleryOrchestra x = tenNotes();
            due(64, x.partLength(0));
            x.transpose(0, 0);
            x.removeLast(0);
            due(54, x.partLength(0));
            x.addRest(0, 12);
            due(66, x.partLength(0));
        });
        partArgument(12, 1, 46, (x, part) -> x.partLength(part));
        test(12, "Returns the length in ticks.", () -> {
            due(0, Check.withParts(1).partLength(0));
            due(120, States.full().partLength(0));
        });
    }
}
