/** Promises 53 to 57: text output and commands. */
final class CommandsTest {
    static void run(Check c) {
        writePart(c);
        appendInput(c);
        execute(c);
        everyCommand(c);
        rejectedAtOnce(c);
        rejectedLater(c);
        failing(c);
        syntax(c);
    }

    private static void writePart(Check c) {
        CutleryOrchestra x = Check.withParts(5);
        x.setTuning(1, 3, 2);
        x.setCue(1, 0);
        Check.add(x, 1, "12*4 -*2 7*8");
        c.due("53 length", 21, x.writePart(1));
        c.due("53 text", "1(3/2)>0 12*4 -*2 7*8", Check.written(x, 1));
        c.due("54 first", '1', x.outputAt(0));
        c.due("54 last", '8', x.outputAt(20));
        c.thrown("54 behind", Check.INDEX, () -> x.outputAt(21));
        c.thrown("54 ahead", Check.INDEX, () -> x.outputAt(-1));
        c.thrown("54 max", Check.INDEX, () -> x.outputAt(Integer.MAX_VALUE));
        c.thrown("53 no part", Check.INDEX, () -> x.writePart(5));
        c.thrown("53 part -1", Check.INDEX, () -> x.writePart(-1));
        c.due("53 output stays", '8', x.outputAt(20));
        x.removeLast(1);
        c.due("53 output stays as it was", '8', x.outputAt(20));
        c.due("53 shorter", 6, x.writePart(0));
        c.thrown("53 in place", Check.INDEX, () -> x.outputAt(6));
        c.due("53 no notes", "0(1/1)", Check.written(x, 0));
        x.setTuning(4, 97, 98);
        x.setCue(4, 3);
        Check.add(x, 4, "35*12 35*12 35*12 35*12 35*12 35*12 35*12 35*12 35*12 35*12");
        c.due("53 longest", "4(97/98)>3 35*12 35*12 35*12 35*12 35*12 35*12 35*12 35*12 35*12 35*12",
            Check.written(x, 4));
        x.undo();
        c.due("53 output stays at undo", '2', x.outputAt(69));
    }

    private static void appendInput(Check c) {
        CutleryOrchestra x = new CutleryOrchestra();
        for (char wrong : new char[] {31, 127, 0, 10, 233, 65535}) {
            c.thrown("55 code " + (int) wrong, Check.ARGUMENT, () -> x.appendInput(wrong));
        }
        c.due("55 lowest", 1, x.appendInput(' '));
        c.due("55 highest", 2, x.appendInput('~'));
        for (int i = 3; i <= 60; i++) {
            c.due("55 length", i, x.appendInput('a'));
        }
        c.thrown("55 full", Check.STATE, () -> x.appendInput('a'));
        c.thrown("55 code ahead of full", Check.ARGUMENT, () -> x.appendInput((char) 31));
        c.thrown("56 wrong first", Check.ARGUMENT, x::execute);
        c.due("57 wrong first", 0, x.syntaxErrorOffset());
        c.due("55 empty again", 1, x.appendInput('a'));
    }

    private static void execute(Check c) {
        CutleryOrchestra x = new CutleryOrchestra();
        c.due("56 commands", 7, Check.run(x, "part;part;note 0 5 6;note 1 6 10;rest 1 5;cue 0>1;play 3"));
        c.due("56 first part", "0(1/1)>1 5*6", Check.written(x, 0));
        c.due("56 second part", "1(1/1) 6*10 -*5", Check.written(x, 1));
        c.due("56 played", 24, x.playedTicks());
        c.due("56 solos", 5, x.soloTicks(0));
        c.due("56 empty after", 1, x.appendInput('p'));
        c.due("56 rest of the input", 1, Check.run(x, "art"));
        c.due("56 one change", 1, x.undo());
        c.due("56 all undone", 0, x.undo());
        c.due("56 nothing left", 0, x.partCount());
        c.due("56 most commands", 11,
            Check.run(x, "part;part;part;part;part;bar 1;bar 2;bar 3;bar 4;bar 5;bar 6"));
        c.due("56 the last of them", 6, x.barLength());
        Check.type(x, "part;part;part;part;part;part;part;part;part;part;part;part");
        c.rejected("56 twelve commands", x, CutleryOrchestra.COMMAND_REJECTED, 0, x::execute);
        x.undo();
        Check.type(x, "part;part;part;part;part;part;part;part;part;part;part;part");
        c.rejected("56 the sixth of twelve", x, CutleryOrchestra.COMMAND_REJECTED, 5, x::execute);
    }

    private static void everyCommand(Check c) {
        CutleryOrchestra x = new CutleryOrchestra();
        Check.run(x, "part");
        Check.run(x, "part");
        c.due("56 parts", 2, x.partCount());
        Check.run(x, "note 1 35 12");
        Check.run(x, "note 1 007 001");
        Check.run(x, "rest 1 4");
        Check.run(x, "rest 1 012");
        c.due("56 notes", "1(1/1) 35*12 7*1 -*4 -*12", Check.written(x, 1));
        Check.run(x, "last 1");
        c.due("56 last", "1(1/1) 35*12 7*1 -*4", Check.written(x, 1));
        Check.run(x, "move 1 -7");
        c.due("56 move down", "1(1/1) 28*12 0*1 -*4", Check.written(x, 1));
        Check.run(x, "move 1 5");
        Check.run(x, "move 1 -0");
        c.due("56 move up", "1(1/1) 33*12 5*1 -*4", Check.written(x, 1));
        Check.run(x, "tune 1 98/014");
        c.due("56 tune", 7, x.tuningNumerator(1));
        Check.run(x, "cue 0>1");
        c.due("56 cue", 1, x.cueOf(0));
        Check.run(x, "alone 0");
        c.thrown("56 alone", Check.ELEMENT, () -> x.cueOf(0));
        Check.run(x, "bar 17");
        c.due("56 bar", 17, x.barLength());
        Check.run(x, "tempo 999 240");
        c.due("56 tempo", 240, x.tempoAt(999));
        c.due("56 tempo ahead", 60, x.tempoAt(998));
        Check.run(x, "play 20");
        c.due("56 play", 340, x.playedTicks());
    }

    private static void rejected(Check c, CutleryOrchestra x, String text, int number, int cause) {
        String before = Check.written(x, 0);
        Check.type(x, text);
        c.rejected("56 " + text, x, CutleryOrchestra.COMMAND_REJECTED, number, x::execute);
        c.due("60 " + text, cause, x.causeReason());
        c.due("56 unchanged by " + text, before, Check.written(x, 0));
        c.due("56 empty after " + text, 1, x.appendInput('?'));
        c.thrown("56 clear", Check.ARGUMENT, x::execute);
    }

    private static void rejectedAtOnce(Check c) {
        CutleryOrchestra x = new CutleryOrchestra();
        Check.run(x, "part;part;part;part");
        rejected(c, x, "part;part", 1, CutleryOrchestra.PART_LIMIT);
        rejected(c, x, "play 1", 0, CutleryOrchestra.SILENT);
        rejected(c, x, "note 0 1 1;rest 0 4;last 0;last 0;last 0;part", 4, CutleryOrchestra.NO_NOTES);
        rejected(c, x, "note 0 30 1;move 0 6;bar 0", 1, CutleryOrchestra.TOO_HIGH_OR_LOW);
        rejected(c, x, "note 0 30 1;move 0 -31", 1, CutleryOrchestra.TOO_HIGH_OR_LOW);
        c.due("56 parts unchanged", 4, x.partCount());
    }

    private static void rejectedLater(Check c) {
        CutleryOrchestra x = Check.withParts(4);
        rejected(c, x, "cue 0>1;tune 0 2/1;cue 0>1", 2, CutleryOrchestra.SAME_CUE);
        rejected(c, x, "cue 0>1;alone 0;alone 0", 2, CutleryOrchestra.NO_CUE);
        for (int i = 0; i < 10; i++) {
            x.addRest(0, 1);
        }
        rejected(c, x, "bar 9;note 0 1 1", 1, CutleryOrchestra.NOTE_LIMIT);
        for (int i = 1; i < 5; i++) {
            x.setTempo(i, 99);
        }
        rejected(c, x, "tempo 7 60;tempo 8 60", 1, CutleryOrchestra.TEMPO_LIMIT);
        c.due("56 bar unchanged", 8, x.barLength());
        c.due("56 tempo unchanged", 99, x.tempoAt(7));
    }

    private static void failing(Check c) {
        String[] wrong = {
            "last 4", "last 9;play 0", "note 0 36 1", "note 0 1 0", "note 1 1 13", "rest 0 0", "rest 1 13", "move 0 36",
            "move 0 -36", "move 0 -999", "tune 0 0/1", "tune 0 1/100", "cue 0>0", "cue 0>4", "cue 5>0", "alone 4",
            "bar 0", "bar 49", "tempo 0 29", "tempo 0 241", "play 0", "play 21", "bar 5;bar 6;bar 0;alone 0",
        };
        for (String text : wrong) {
            CutleryOrchestra x = Check.withParts(4);
            Check.type(x, "bar 9;last 3");
            c.thrown("56 rejection ahead of " + text, Check.REJECTED, x::execute);
            Check.type(x, text);
            c.thrown("56 " + text, Check.STATE, x::execute);
            c.due("56 rejection stays at " + text, 1, x.rejectionDetail());
            c.due("56 bar unchanged by " + text, 8, x.barLength());
            c.thrown("57 no syntax error: " + text, Check.ELEMENT, x::syntaxErrorOffset);
            c.due("55 empty after " + text, 1, x.appendInput('b'));
        }
    }

    private static void dueError(Check c, String text, int offset) {
        CutleryOrchestra x = Check.withParts(1);
        Check.type(x, text);
        c.thrown("56 '" + text + "'", Check.ARGUMENT, x::execute);
        c.due("57 '" + text + "'", offset, x.syntaxErrorOffset());
        c.due("56 parts after '" + text + "'", 1, x.partCount());
        c.due("56 empty after '" + text + "'", 1, x.appendInput('p'));
        c.due("56 next after '" + text + "'", 1, Check.run(x, "art"));
        c.due("57 stays after '" + text + "'", offset, x.syntaxErrorOffset());
    }

    private static void syntax(Check c) {
        CutleryOrchestra x = new CutleryOrchestra();
        c.thrown("57 none yet", Check.ELEMENT, x::syntaxErrorOffset);
        dueError(c, "", 0);
        dueError(c, " part", 0);
        dueError(c, "Part", 0);
        dueError(c, "p", 1);
        dueError(c, "px", 1);
        dueError(c, "pl", 2);
        dueError(c, "plart", 3);
        dueError(c, "paly 1", 2);
        dueError(c, "t", 1);
        dueError(c, "tu", 2);
        dueError(c, "te", 2);
        dueError(c, "ta", 1);
        dueError(c, "tunne", 3);
        dueError(c, "part ", 4);
        dueError(c, "part;", 5);
        dueError(c, "part;;part", 5);
        dueError(c, ";part", 0);
        dueError(c, "part,part", 4);
        dueError(c, "part;bar 3;x", 11);
        dueError(c, "note", 4);
        dueError(c, "note  0 1 1", 5);
        dueError(c, "note 00 1 1", 6);
        dueError(c, "note 0 1", 8);
        dueError(c, "note 0 1;part", 8);
        dueError(c, "note 0 1 ", 9);
        dueError(c, "note 0 1234 1", 10);
        dueError(c, "note 0 1 1234", 12);
        dueError(c, "note 0 -1 1", 7);
        dueError(c, "note a 1 1", 5);
        dueError(c, "rest 0 1 1", 8);
        dueError(c, "last 10", 6);
        dueError(c, "last", 4);
        dueError(c, "move 0 --1", 8);
        dueError(c, "move 0 -", 8);
        dueError(c, "move 0 +1", 7);
        dueError(c, "move 0 1-", 8);
        dueError(c, "tune 0 1", 8);
        dueError(c, "tune 0 1/", 9);
        dueError(c, "tune 0 1 2", 8);
        dueError(c, "tune 0 1/1/1", 10);
        dueError(c, "cue 0", 5);
        dueError(c, "cue 0>", 6);
        dueError(c, "cue 0>11", 7);
        dueError(c, "cue 0<1", 5);
        dueError(c, "alone ", 6);
        dueError(c, "alone0", 5);
        dueError(c, "bar 1234", 7);
        dueError(c, "bar 1 ", 5);
        dueError(c, "bar -1", 4);
        dueError(c, "tempo 1", 7);
        dueError(c, "tempo 1 ", 8);
        dueError(c, "tempo 1000 60", 9);
        dueError(c, "play ", 5);
        dueError(c, "play 1x", 6);
        dueError(c, "part;play 1 ", 11);
        // A syntax error counts ahead of a command that would fail.
        dueError(c, "last 9;last 0;z", 14);
        dueError(c, "part;part;part;part;part;part;part;part;part;part;part;part;", 60);
        dueError(c, "part;part;part;part;part;part;part;part;part;part;part;part!", 59);
    }
}
