/** Promises 58 to 63, and what the terms say of rejections and changes. */
final class HistoryTest {
    static void run(Check c) {
        constants(c);
        rejections(c);
        undo(c);
        everyChange(c);
        noChanges(c);
        cover(c);
        snapshot(c);
        everythingUndone(c);
        everythingRestored(c);
        everythingOrNothing(c);
    }

    private static void constants(Check c) {
        int[] constants = {
            CutleryOrchestra.PART_LIMIT, CutleryOrchestra.NOTE_LIMIT, CutleryOrchestra.NO_NOTES,
            CutleryOrchestra.TOO_HIGH_OR_LOW, CutleryOrchestra.SAME_CUE, CutleryOrchestra.NO_CUE,
            CutleryOrchestra.TEMPO_LIMIT, CutleryOrchestra.SILENT, CutleryOrchestra.COMMAND_REJECTED,
        };
        for (int i = 0; i < constants.length; i++) {
            c.due("constant " + i, i + 1, constants[i]);
        }
    }

    private static void rejections(Check c) {
        CutleryOrchestra x = new CutleryOrchestra();
        c.thrown("58 none", Check.ELEMENT, x::rejectionReason);
        c.thrown("59 none", Check.ELEMENT, x::rejectionDetail);
        c.thrown("60 none", Check.ELEMENT, x::causeReason);
        x.addPart();
        c.rejected("58 silent", x, CutleryOrchestra.SILENT, 1, () -> x.play(1));
        c.thrown("60 no command", Check.ELEMENT, x::causeReason);
        c.thrown("58 other exception", Check.INDEX, () -> x.removeLast(1));
        c.thrown("58 other exception", Check.ARGUMENT, () -> x.play(0));
        x.addNote(0, 1, 1);
        c.due("58 stays", CutleryOrchestra.SILENT, x.rejectionReason());
        c.due("59 stays", 1, x.rejectionDetail());
        Check.type(x, "bar 9;alone 0");
        c.rejected("58 command", x, CutleryOrchestra.COMMAND_REJECTED, 1, x::execute);
        c.due("60 command", CutleryOrchestra.NO_CUE, x.causeReason());
        x.undo();
        c.due("58 stays at undo", CutleryOrchestra.COMMAND_REJECTED, x.rejectionReason());
        c.due("60 stays at undo", CutleryOrchestra.NO_CUE, x.causeReason());
        Check.type(x, "bar");
        c.thrown("58 syntax error", Check.ARGUMENT, x::execute);
        c.due("58 stays at a syntax error", CutleryOrchestra.COMMAND_REJECTED, x.rejectionReason());
        c.rejected("58 method again", x, CutleryOrchestra.NO_CUE, 0, () -> x.removeCue(0));
        c.thrown("60 method again", Check.ELEMENT, x::causeReason);
        Check.run(x, "bar 5");
        c.due("58 stays at commands", CutleryOrchestra.NO_CUE, x.rejectionReason());
    }

    private static void undo(Check c) {
        CutleryOrchestra x = new CutleryOrchestra();
        c.thrown("61 none", Check.STATE, x::undo);
        for (int i = 1; i <= 12; i++) {
            x.setBar(i);
        }
        for (int i = 1; i <= 8; i++) {
            c.due("61 left", 8 - i, x.undo());
            c.due("61 bar", 12 - i, x.barLength());
        }
        c.thrown("61 no more", Check.STATE, x::undo);
        c.due("61 unchanged", 4, x.barLength());
        x.setBar(20);
        x.setBar(21);
        c.due("61 after new ones", 1, x.undo());
        c.due("61 bar then", 20, x.barLength());
        x.setBar(22);
        c.due("61 in place of the undone one", 1, x.undo());
        c.due("61 bar again", 20, x.barLength());
        c.due("61 the first", 0, x.undo());
        c.due("61 bar at the first", 4, x.barLength());
    }

    /** All data, as the calls that look at it tell it. */
    private static String told(CutleryOrchestra x) {
        StringBuilder text = new StringBuilder();
        for (int i = 0; i < x.partCount(); i++) {
            text.append(Check.written(x, i)).append(", ").append(x.partLength(i)).append(" ticks, ")
                .append(x.soundedTicks(i)).append(" sounded, ").append(x.soloTicks(i)).append(" solos; ");
        }
        for (int bar = 0; bar < 12; bar++) {
            text.append(x.tempoAt(bar)).append(' ');
        }
        return text.append(x.barLength()).append(' ').append(x.playedTicks()).toString();
    }

    private static CutleryOrchestra manyThings() {
        CutleryOrchestra x = Check.withParts(3);
        Check.add(x, 0, "5*3 -*2 6*1");
        Check.add(x, 2, "7*12 8*1");
        x.setTuning(0, 9, 6);
        x.setTuning(2, 5, 4);
        x.setCue(0, 2);
        x.setCue(2, 1);
        x.setTempo(4, 80);
        x.setTempo(8, 90);
        x.setBar(5);
        x.play(3);
        return x;
    }

    private static void changeAll(CutleryOrchestra x) {
        x.play(1);
        Check.run(x, "rest 0 9;last 2;last 2;rest 2 3;tune 2 7/3;alone 0");
        Check.run(x, "cue 1>0;cue 2>0;tempo 6 70;tempo 0 99;tempo 8 31");
        Check.run(x, "bar 7;move 0 -5;play 2;part;rest 3 1;tune 3 7/8");
    }

    /** Undo brings back all data, and what depends on it. */
    private static void everythingUndone(Check c) {
        CutleryOrchestra x = manyThings();
        String before = told(x);
        changeAll(x);
        for (int i = 0; i < 4; i++) {
            x.undo();
        }
        c.due("61 all data", before, told(x));
        c.due("61 number of cues", 3, x.setCue(1, 2));
        c.due("61 number of tempos", 4, x.setTempo(2, 50));
    }

    /** So does the snapshot. */
    private static void everythingRestored(Check c) {
        CutleryOrchestra x = manyThings();
        String before = told(x);
        x.saveSnapshot();
        changeAll(x);
        x.restoreSnapshot();
        c.due("63 all data", before, told(x));
        c.due("63 part as new", 3, x.addPart());
        c.due("63 part as new", "3(1/1)", Check.written(x, 3));
        c.due("63 number of cues", 1, x.removeCue(0));
        c.due("63 number of tempos", 4, x.setTempo(2, 50));
    }

    /** Commands that fail leave all data as they were. */
    private static void everythingOrNothing(Check c) {
        CutleryOrchestra x = manyThings();
        x.addPart();
        String before = told(x);
        Check.type(x, "part;note 4 1 1;cue 4>0;tempo 3 33;play 2;play 0");
        c.thrown("56 all or none", Check.STATE, x::execute);
        c.due("56 all data", before, told(x));
    }

    /** The number of changes that can be undone, found by undoing them. */
    private static int undone(CutleryOrchestra x) {
        int count = 0;
        while (true) {
            try {
                x.undo();
            } catch (IllegalStateException e) {
                return count;
            }
            count++;
        }
    }

    private static CutleryOrchestra fresh() {
        CutleryOrchestra x = Check.withParts(2);
        x.addNote(0, 5, 5);
        x.setCue(0, 1);
        x.saveSnapshot();
        x.restoreSnapshot();
        return x;
    }

    private static void dueChange(Check c, String what, CutleryOrchestra x, Check.Call call, int count) {
        call.run();
        c.due("61 changes of " + what, count, undone(x));
        c.due("61 undone " + what, "0(1/1)>1 5*5", Check.written(x, 0));
        c.due("61 parts after " + what, 2, x.partCount());
        c.due("61 bar after " + what, 8, x.barLength());
        c.due("61 tempo after " + what, 60, x.tempoAt(3));
        c.due("61 played after " + what, 0, x.playedTicks());
        c.due("61 sounded after " + what, 0, x.soundedTicks(0));
        c.due("61 solos after " + what, 0, x.soloTicks(0));
        c.due("61 cue after " + what, 1, x.cueOf(0));
    }

    private static void everyChange(Check c) {
        CutleryOrchestra x = fresh();
        dueChange(c, "addPart", x, x::addPart, 1);
        dueChange(c, "addNote", x, () -> x.addNote(0, 1, 1), 1);
        dueChange(c, "addRest", x, () -> x.addRest(0, 1), 1);
        dueChange(c, "removeLast", x, () -> x.removeLast(0), 1);
        dueChange(c, "transpose", x, () -> x.transpose(0, 3), 1);
        dueChange(c, "transpose by 0", x, () -> x.transpose(0, 0), 1);
        dueChange(c, "setTuning", x, () -> x.setTuning(0, 3, 2), 1);
        dueChange(c, "setTuning to the same", x, () -> x.setTuning(0, 2, 2), 1);
        dueChange(c, "setCue", x, () -> x.setCue(1, 0), 1);
        dueChange(c, "removeCue", x, () -> x.removeCue(0), 1);
        dueChange(c, "setBar", x, () -> x.setBar(9), 1);
        dueChange(c, "setBar to the same", x, () -> x.setBar(8), 1);
        dueChange(c, "setTempo", x, () -> x.setTempo(3, 99), 1);
        dueChange(c, "play", x, () -> x.play(1), 1);
        dueChange(c, "execute", x, () -> Check.run(x, "part;note 0 1 1;bar 7;play 2;tempo 1 99"), 1);
        dueChange(c, "two", x, () -> x.addRest(0, 1) + x.play(3), 2);
    }

    private static void noChanges(Check c) {
        CutleryOrchestra x = fresh();
        dueChange(c, "a rejected call", x, () -> {
            c.thrown("61 rejected", Check.REJECTED, () -> x.setCue(0, 1));
            return 0;
        }, 0);
        dueChange(c, "a wrong call", x, () -> {
            c.thrown("61 wrong", Check.INDEX, () -> x.addRest(2, 1));
            return 0;
        }, 0);
        dueChange(c, "rejected commands", x, () -> {
            Check.type(x, "part;note 0 1 1;bar 7;play 2;cue 0>1");
            c.thrown("61 rejected commands", Check.REJECTED, x::execute);
            return 0;
        }, 0);
        dueChange(c, "failing commands", x, () -> {
            Check.type(x, "part;note 0 1 1;bar 7;play 2;cue 1>1");
            c.thrown("61 failing commands", Check.STATE, x::execute);
            return 0;
        }, 0);
        dueChange(c, "looking", x, () -> x.solosAhead(3) + x.writePart(0) + x.saveSnapshot(), 0);
        // Failing calls take nothing from the eight changes.
        CutleryOrchestra y = fresh();
        for (int i = 0; i < 9; i++) {
            y.setBar(10 + i);
            c.thrown("61 between", Check.ARGUMENT, () -> y.setBar(0));
            Check.type(y, "bar 1;bar 0");
            c.thrown("61 between", Check.STATE, y::execute);
        }
        c.due("61 still eight", 8, undone(y));
        c.due("61 the oldest of them", 10, y.barLength());
    }

    private static void cover(Check c) {
        CutleryOrchestra x = fresh();
        x.addRest(0, 1);
        Check.type(x, "bar");
        c.thrown("61 error", Check.ARGUMENT, x::execute);
        Check.type(x, "ba");
        x.writePart(0);
        x.undo();
        c.due("61 input stays", 3, x.appendInput('r'));
        c.due("61 output stays", '*', x.outputAt(10));
        c.due("61 error stays", 3, x.syntaxErrorOffset());
        x.restoreSnapshot();
        c.due("63 input stays", 4, x.appendInput(' '));
        c.due("63 output stays", '*', x.outputAt(10));
        c.due("63 error stays", 3, x.syntaxErrorOffset());
        c.due("63 input runs", 1, Check.run(x, "9"));
    }

    private static void snapshot(Check c) {
        CutleryOrchestra x = new CutleryOrchestra();
        c.thrown("63 none", Check.STATE, x::restoreSnapshot);
        c.due("62 no parts", 0, x.saveSnapshot());
        Check.run(x, "part;part;note 0 5 3;cue 1>0;tune 1 4/6;bar 5;tempo 2 90");
        x.play(1);
        c.due("62 in place", 2, x.saveSnapshot());
        c.due("61 saving is no change and ends none", 1, x.undo());
        x.undo();
        c.due("61 back ahead of it", 0, x.partCount());
        c.due("63 restored", 2, x.restoreSnapshot());
        c.due("63 part 0", "0(1/1) 5*3", Check.written(x, 0));
        c.due("63 part 1", "1(2/3)>0", Check.written(x, 1));
        c.due("63 bar", 5, x.barLength());
        c.due("63 tempo", 90, x.tempoAt(2));
        c.due("63 played", 5, x.playedTicks());
        c.due("63 sounded", 5, x.soundedTicks(0));
        c.due("63 solos", 5, x.soloTicks(0));
        c.thrown("61 none after restoring", Check.STATE, x::undo);
        x.removeCue(1);
        x.addNote(0, 6, 6);
        x.play(2);
        x.addPart();
        c.due("63 restored again", 2, x.restoreSnapshot());
        c.due("63 part 0 again", "0(1/1) 5*3", Check.written(x, 0));
        c.due("63 part 1 again", "1(2/3)>0", Check.written(x, 1));
        c.due("63 played again", 5, x.playedTicks());
        c.thrown("61 none after restoring again", Check.STATE, x::undo);
        c.due("63 new part", 2, x.addPart());
        c.due("63 new part as new", "2(1/1)", Check.written(x, 2));
        c.due("61 of the new part", 0, x.undo());
    }
}
