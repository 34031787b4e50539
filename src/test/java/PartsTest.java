/** Promises 1 to 12: a new object, parts and notes. */
final class PartsTest {
    static void run(Check c) {
        newObject(c);
        addPart(c);
        addNote(c);
        addRest(c);
        removeLast(c);
        transpose(c);
        looks(c);
        order(c);
    }

    private static void newObject(Check c) {
        CutleryOrchestra x = new CutleryOrchestra();
        c.due("1 parts", 0, x.partCount());
        c.due("1 bar", 8, x.barLength());
        c.due("1 played", 0, x.playedTicks());
        c.due("1 tempo", 60, x.tempoAt(0));
        c.due("1 later tempo", 60, x.tempoAt(999));
        c.due("1 consistent", true, x.isConsistent());
        c.thrown("1 output", Check.INDEX, () -> x.outputAt(0));
        c.thrown("1 undo", Check.STATE, x::undo);
        c.thrown("1 snapshot", Check.STATE, x::restoreSnapshot);
        c.thrown("1 reason", Check.ELEMENT, x::rejectionReason);
        c.thrown("1 syntax error", Check.ELEMENT, x::syntaxErrorOffset);
        c.due("1 input", 1, x.appendInput('p'));
    }

    private static void addPart(Check c) {
        CutleryOrchestra x = new CutleryOrchestra();
        for (int i = 0; i < 5; i++) {
            c.due("2 index", i, x.addPart());
            c.due("2 count", i + 1, x.partCount());
            c.due("2 notes", 0, x.noteCount(i));
            c.due("2 numerator", 1, x.tuningNumerator(i));
            c.due("2 denominator", 1, x.tuningDenominator(i));
            int part = i;
            c.thrown("2 cue", Check.ELEMENT, () -> x.cueOf(part));
            c.due("2 sounded", 0, x.soundedTicks(i));
            c.due("2 solos", 0, x.soloTicks(i));
        }
        c.rejected("2 sixth", x, CutleryOrchestra.PART_LIMIT, 5, x::addPart);
        c.due("2 count after", 5, x.partCount());
        // A part that was undone comes back as new.
        CutleryOrchestra y = Check.withParts(1);
        y.addNote(0, 3, 3);
        y.setTuning(0, 2, 3);
        for (int i = 0; i < 3; i++) {
            y.undo();
        }
        y.addPart();
        c.due("2 part again", "0(1/1)", Check.written(y, 0));
    }

    private static void addNote(Check c) {
        CutleryOrchestra x = Check.withParts(2);
        c.due("3 first", 1, x.addNote(1, 0, 1));
        c.due("3 second", 2, x.addNote(1, 35, 12));
        c.due("3 other part", 0, x.noteCount(0));
        c.due("3 text", "1(1/1) 0*1 35*12", Check.written(x, 1));
        c.thrown("3 no part", Check.INDEX, () -> x.addNote(2, 0, 1));
        c.thrown("3 part -1", Check.INDEX, () -> x.addNote(-1, 0, 1));
        c.thrown("3 part min", Check.INDEX, () -> x.addNote(Integer.MIN_VALUE, 0, 1));
        c.thrown("3 pitch -1", Check.ARGUMENT, () -> x.addNote(0, -1, 1));
        c.thrown("3 pitch 36", Check.ARGUMENT, () -> x.addNote(0, 36, 1));
        c.thrown("3 length 0", Check.ARGUMENT, () -> x.addNote(0, 0, 0));
        c.thrown("3 length 13", Check.ARGUMENT, () -> x.addNote(0, 0, 13));
        c.due("3 unchanged", 0, x.noteCount(0));
        for (int i = 3; i <= 10; i++) {
            c.due("3 count", i, x.addNote(1, i, 2));
        }
        c.rejected("3 eleventh", x, CutleryOrchestra.NOTE_LIMIT, 29, () -> x.addNote(1, 0, 1));
        c.due("3 still ten", 10, x.noteCount(1));
    }

    private static void addRest(Check c) {
        CutleryOrchestra x = Check.withParts(2);
        c.due("4 first", 1, x.addRest(1, 12));
        c.due("4 second", 2, x.addRest(1, 1));
        c.due("4 text", "1(1/1) -*12 -*1", Check.written(x, 1));
        c.thrown("4 no part", Check.INDEX, () -> x.addRest(2, 1));
        c.thrown("4 part -1", Check.INDEX, () -> x.addRest(-1, 1));
        c.thrown("4 length 0", Check.ARGUMENT, () -> x.addRest(0, 0));
        c.thrown("4 length 13", Check.ARGUMENT, () -> x.addRest(0, 13));
        for (int i = 3; i <= 10; i++) {
            c.due("4 count", i, x.addRest(1, 3));
        }
        c.rejected("4 eleventh", x, CutleryOrchestra.NOTE_LIMIT, 37, () -> x.addRest(1, 1));
        c.due("4 still ten", 10, x.noteCount(1));
        c.due("4 still 37", 37, x.partLength(1));
    }

    private static void removeLast(Check c) {
        CutleryOrchestra x = Check.withParts(2);
        Check.add(x, 1, "4*5 -*3 7*2");
        c.due("5 first", 8, x.removeLast(1));
        c.due("5 text", "1(1/1) 4*5 -*3", Check.written(x, 1));
        c.due("5 second", 5, x.removeLast(1));
        c.due("5 third", 0, x.removeLast(1));
        c.due("5 none left", 0, x.noteCount(1));
        c.rejected("5 no notes", x, CutleryOrchestra.NO_NOTES, 1, () -> x.removeLast(1));
        c.thrown("5 no part", Check.INDEX, () -> x.removeLast(2));
        c.thrown("5 part -1", Check.INDEX, () -> x.removeLast(-1));
        for (int i = 0; i < 10; i++) {
            x.addNote(0, 1, 1);
        }
        c.due("5 of ten", 9, x.removeLast(0));
        c.due("5 room again", 10, x.addNote(0, 2, 2));
        c.due("5 other note", 2, x.pitchOf(0, 9));
    }

    private static void transpose(Check c) {
        CutleryOrchestra x = Check.withParts(2);
        c.due("6 no notes", 0, x.transpose(1, 35));
        Check.add(x, 1, "-*1 10*5 25*3 -*2");
        c.due("6 up", 2, x.transpose(1, 10));
        c.due("6 text up", "1(1/1) -*1 20*5 35*3 -*2", Check.written(x, 1));
        c.rejected("6 too high", x, CutleryOrchestra.TOO_HIGH_OR_LOW, 2, () -> x.transpose(1, 1));
        c.due("6 down", 2, x.transpose(1, -20));
        c.due("6 text down", "1(1/1) -*1 0*5 15*3 -*2", Check.written(x, 1));
        c.rejected("6 too low", x, CutleryOrchestra.TOO_HIGH_OR_LOW, 1, () -> x.transpose(1, -1));
        c.rejected("6 both", x, CutleryOrchestra.TOO_HIGH_OR_LOW, 1, () -> x.transpose(1, -35));
        c.due("6 unchanged", "1(1/1) -*1 0*5 15*3 -*2", Check.written(x, 1));
        c.due("6 by 0", 0, x.transpose(1, 0));
        c.due("6 other part", 0, x.transpose(0, -35));
        c.thrown("6 by 36", Check.ARGUMENT, () -> x.transpose(0, 36));
        c.thrown("6 by -36", Check.ARGUMENT, () -> x.transpose(0, -36));
        c.thrown("6 by min", Check.ARGUMENT, () -> x.transpose(0, Integer.MIN_VALUE));
        c.thrown("6 no part", Check.INDEX, () -> x.transpose(2, 0));
        c.thrown("6 part -1", Check.INDEX, () -> x.transpose(-1, 0));
        x.addRest(0, 12);
        c.due("6 rests alone", 0, x.transpose(0, 35));
        // A note that was removed is no hindrance, and does not count.
        x.addNote(0, 1, 1);
        x.addNote(0, 35, 1);
        x.removeLast(0);
        c.due("6 removed note", 1, x.transpose(0, 5));
        for (int i = 2; i < 10; i++) {
            x.addNote(0, 20, 1);
        }
        c.due("6 ten notes", 9, x.transpose(0, -6));
        c.due("6 ten notes' text", "0(1/1) -*12 0*1 14*1 14*1 14*1 14*1 14*1 14*1 14*1 14*1", Check.written(x, 0));
        c.due("6 rest stays", true, x.isRest(0, 0));
    }

    private static void looks(Check c) {
        CutleryOrchestra x = Check.withParts(3);
        Check.add(x, 2, "0*3 -*12 35*1");
        c.due("7 parts", 3, x.partCount());
        c.due("8 notes", 3, x.noteCount(2));
        c.due("8 no notes", 0, x.noteCount(0));
        c.thrown("8 no part", Check.INDEX, () -> x.noteCount(3));
        c.thrown("8 part -1", Check.INDEX, () -> x.noteCount(-1));
        c.due("9 note", false, x.isRest(2, 0));
        c.due("9 rest", true, x.isRest(2, 1));
        c.due("10 lowest", 0, x.pitchOf(2, 0));
        c.due("10 highest", 35, x.pitchOf(2, 2));
        c.thrown("10 rest", Check.ELEMENT, () -> x.pitchOf(2, 1));
        c.due("11 first", 3, x.lengthOf(2, 0));
        c.due("11 rest", 12, x.lengthOf(2, 1));
        c.due("11 last", 1, x.lengthOf(2, 2));
        int[][] absent = {{3, 0}, {-1, 0}, {2, 3}, {2, -1}, {0, 0}, {2, 10}, {2, Integer.MAX_VALUE}};
        for (int[] at : absent) {
            c.thrown("9 absent", Check.INDEX, () -> x.isRest(at[0], at[1]));
            c.thrown("10 absent", Check.INDEX, () -> x.pitchOf(at[0], at[1]));
            c.thrown("11 absent", Check.INDEX, () -> x.lengthOf(at[0], at[1]));
        }
        c.due("12 length", 16, x.partLength(2));
        c.due("12 no notes", 0, x.partLength(0));
        c.thrown("12 no part", Check.INDEX, () -> x.partLength(3));
        c.thrown("12 part -1", Check.INDEX, () -> x.partLength(-1));
        x.removeLast(2);
        c.thrown("9 removed note", Check.INDEX, () -> x.isRest(2, 2));
    }

    /** If several exceptions apply, the one that is listed first is thrown. */
    private static void order(Check c) {
        CutleryOrchestra x = Check.withParts(1);
        for (int i = 0; i < 10; i++) {
            x.addNote(0, 0, 1);
        }
        c.thrown("3 part ahead of pitch", Check.INDEX, () -> x.addNote(1, 36, 13));
        c.thrown("3 pitch ahead of limit", Check.ARGUMENT, () -> x.addNote(0, 36, 1));
        c.thrown("3 length ahead of limit", Check.ARGUMENT, () -> x.addNote(0, 0, 0));
        c.thrown("4 part ahead of length", Check.INDEX, () -> x.addRest(1, 0));
        c.thrown("4 length ahead of limit", Check.ARGUMENT, () -> x.addRest(0, 0));
        c.thrown("6 part ahead of by", Check.INDEX, () -> x.transpose(1, 36));
        c.thrown("6 by ahead of pitches", Check.ARGUMENT, () -> x.transpose(0, -36));
        c.thrown("no rejection", Check.ELEMENT, x::rejectionReason);
    }
}
