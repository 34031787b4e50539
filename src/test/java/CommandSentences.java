import java.util.ArrayList;
import java.util.List;
import java.util.regex.Matcher;
import java.util.regex.Pattern;

/** The sentences under "Terms" that tell of the commands. */
final class CommandSentences extends SentenceTest {
    private static final String TERMS = "Terms";
    private static final String COMMAND = "(part|note \\d N N|rest \\d N|last \\d|move \\d -?N|tune \\d N/N"
        + "|cue \\d>\\d|alone \\d|bar N|tempo N N|play N)";
    private static final Pattern INPUT =
        Pattern.compile((COMMAND + "(;" + COMMAND + ")*").replace("N", "\\d{1,3}"));

    CommandSentences(Check check, Book book) {
        super(check, book);
    }

    @Override
    void run() {
        input();
        partsAndNotes();
        tuningsAndCues();
        bars();
        numbers();
        offsets();
    }

    /** The input has a syntax error at this offset. */
    private void dueError(int offset, String input) {
        CutleryOrchestra x = States.five();
        thrown(Check.ARGUMENT, () -> Check.run(x, input));
        due(offset, x.syntaxErrorOffset());
    }

    private void dueTexts(Object answer, String... inputs) {
        for (String input : inputs) {
            due(answer, Check.answer(() -> Check.run(States.five(), input)));
        }
    }

    private void input() {
        test(TERMS, "The input has one or more commands, with \";\" between two of them.", () -> {
            due(1, Check.run(new CutleryOrchestra(), "part"));
            due(2, Check.run(new CutleryOrchestra(), "part;part"));
            // Eleven commands are the most that can be executed: five parts, and six of the next shortest.
            String most = "part;part;part;part;part;bar 1;bar 2;bar 3;bar 4;bar 5;bar 6";
            due(60, most.length());
            due(11, Check.run(new CutleryOrchestra(), most));
            dueError(0, "");
            dueError(0, ";");
            dueError(0, ";bar 1");
            dueError(6, "bar 1;");
            dueError(6, "bar 1;;bar 2");
            dueError(5, "bar 1 ;bar 2");
            dueError(6, "bar 1; bar 2");
            dueError(5, "bar 1,bar 2");
            dueError(60, "part;part;part;part;part;part;part;part;part;part;part;part;");
        });
    }

    private void partsAndNotes() {
        test(TERMS, "\"part\" adds a part.", () -> {
            CutleryOrchestra x = Check.withParts(4);
            due(1, Check.run(x, "part"));
            due(5, x.partCount());
            due("4(1/1)", Check.written(x, 4));
            thrown(Check.REJECTED, () -> Check.run(x, "part"));
            dueError(3, "par");
            dueError(4, "part ");
            dueError(4, "parts");
            dueError(4, "partpart");
            dueError(0, "Part");
        });
        test(TERMS, "\"note \", a digit, a space, a number, a space and a number adds a note with a pitch and a length"
            + " to a part, and \"rest \", a digit, a space and a number adds a rest.", () -> {
            CutleryOrchestra x = Check.withParts(5);
            Check.run(x, "note 0 0 1;note 4 35 12;rest 0 12;rest 4 1");
            due("0(1/1) 0*1 -*12", Check.written(x, 0));
            due("4(1/1) 35*12 -*1", Check.written(x, 4));
            dueTexts(Check.STATE, "note 5 0 1", "note 9 0 1", "note 0 36 1", "note 0 0 0", "note 0 0 13", "rest 5 1",
                "rest 9 1", "rest 0 0", "rest 0 13");
            dueError(5, "note ");
            dueError(6, "note 0");
            dueError(6, "note 00 0 1");
            dueError(7, "note 0 -1 1");
            dueError(8, "note 0 0");
            dueError(9, "note 0 0 ");
            dueError(9, "note 0 0 -1");
            dueError(10, "note 0 0 1 1");
            dueError(7, "rest 0 ");
            dueError(8, "rest 0 1 1");
            dueError(6, "rest 00 1");
        });
        test(TERMS, "\"last \" and a digit removes the last note of a part.", () -> {
            CutleryOrchestra x = States.five();
            Check.run(x, "last 0;last 4");
            due(0, x.noteCount(0));
            due(4, x.noteCount(4));
            thrown(Check.REJECTED, () -> Check.run(x, "last 0"));
            dueTexts(Check.STATE, "last 5", "last 9");
            dueError(4, "last");
            dueError(5, "last ");
            dueError(6, "last 00");
            dueError(5, "last -1");
        });
        test(TERMS, "\"move \", a digit, a space, a \"-\" or nothing, and a number transposes a part.", () -> {
            CutleryOrchestra x = States.five();
            Check.run(x, "move 0 35;move 4 -35");
            due(35, x.pitchOf(0, 0));
            due(0, x.pitchOf(4, 0));
            Check.run(x, "move 0 -0;move 0 0;move 0 -035;move 4 035");
            due(0, x.pitchOf(0, 0));
            due(35, x.pitchOf(4, 0));
            thrown(Check.REJECTED, () -> Check.run(x, "move 0 -1"));
            thrown(Check.REJECTED, () -> Check.run(x, "move 4 1"));
            dueTexts(Check.STATE, "move 0 36", "move 4 -36", "move 0 999", "move 0 -999", "move 5 0", "move 9 -1");
            dueError(7, "move 0 ");
            dueError(8, "move 0 -");
            dueError(8, "move 0 --1");
            dueError(8, "move 0 - 1");
            dueError(7, "move 0 +1");
            dueError(11, "move 0 -1000");
            dueError(10, "move 0 1000");
            dueError(5, "move -1 1");
        });
    }

    private void tuningsAndCues() {
        test(TERMS, "\"tune \", a digit, a space, a number, \"/\" and a number sets a tuning.", () -> {
            CutleryOrchestra x = States.five();
            Check.run(x, "tune 0 1/99;tune 4 99/1;tune 1 99/99;tune 2 6/4");
            due(99, x.tuningDenominator(0));
            due(99, x.tuningNumerator(4));
            due(1, x.tuningNumerator(1));
            due(3, x.tuningNumerator(2));
            due(2, x.tuningDenominator(2));
            dueTexts(Check.STATE, "tune 0 0/1", "tune 0 1/0", "tune 0 100/1", "tune 0 1/100", "tune 5 1/1",
                "tune 9 1/1");
            dueError(8, "tune 0 1");
            dueError(8, "tune 0 1 /1");
            dueError(9, "tune 0 1/");
            dueError(9, "tune 0 1//1");
            dueError(10, "tune 0 1/1/1");
            dueError(9, "tune 0 1/-1");
            dueError(7, "tune 0 /1");
        });
        test(TERMS, "\"cue \", a digit, \">\" and a digit sets a cue, and \"alone \" and a digit removes one.", () -> {
            CutleryOrchestra x = Check.withParts(5);
            Check.run(x, "cue 0>4;cue 4>0");
            due(4, x.cueOf(0));
            due(0, x.cueOf(4));
            Check.run(x, "alone 0;alone 4");
            thrown(Check.ELEMENT, () -> x.cueOf(0));
            thrown(Check.ELEMENT, () -> x.cueOf(4));
            thrown(Check.REJECTED, () -> Check.run(x, "alone 4"));
            dueTexts(Check.STATE, "cue 0>0", "cue 4>4", "cue 0>5", "cue 5>0", "cue 9>9", "alone 5", "alone 9");
            dueTexts(Check.REJECTED, "cue 4>3", "alone 0");
            dueError(4, "cue ");
            dueError(5, "cue 0");
            dueError(6, "cue 0>");
            dueError(5, "cue 0 >1");
            dueError(5, "cue 00>1");
            dueError(7, "cue 0>10");
            dueError(6, "alone ");
            dueError(7, "alone 00");
        });
    }

    private void bars() {
        test(TERMS, "\"bar \" and a number sets the length of bars, \"tempo \", a number, a space and a number sets a"
            + " tempo from a bar on, and \"play \" and a number plays bars.", () -> {
            CutleryOrchestra x = States.five();
            Check.run(x, "bar 1;tempo 0 30;tempo 999 240;play 1");
            due(1, x.barLength());
            due(30, x.tempoAt(998));
            due(240, x.tempoAt(999));
            due(1, x.playedTicks());
            Check.run(x, "bar 48;play 20");
            due(48, x.barLength());
            due(961, x.playedTicks());
            dueTexts(Check.STATE, "bar 0", "bar 49", "bar 999", "tempo 0 29", "tempo 0 241", "tempo 999 0", "play 0",
                "play 21", "play 999");
            due(Check.REJECTED, Check.answer(() -> Check.run(new CutleryOrchestra(), "play 20")));
            dueError(4, "bar ");
            dueError(4, "bar -1");
            dueError(7, "bar 1000");
            dueError(7, "tempo 0");
            dueError(8, "tempo 0 ");
            dueError(9, "tempo 1000 60");
            dueError(11, "tempo 0 1000");
            dueError(5, "play ");
            dueError(8, "play 0001");
        });
    }

    private void numbers() {
        test(TERMS, "A number has one to three digits.", () -> {
            // Of one, two and three digits, with zeros ahead of them too.
            due(8, Check.run(States.five(), "bar 1;bar 01;bar 001;bar 48;bar 048;play 1;play 01;play 001"));
            due(3, Check.run(States.five(), "note 0 000 012;note 0 035 001;rest 0 012"));
            due(3, Check.run(States.five(), "tune 0 099/001;tempo 099 240;move 1 -007"));
            // Without a digit, and with a fourth one.
            String[] around = {
                "note 0 ", " 1", "note 0 1 ", "", "rest 0 ", "", "move 0 ", "", "move 0 -", "", "tune 0 ", "/1",
                "tune 0 1/", "", "bar ", "", "tempo ", " 60", "tempo 0 ", "", "play ", "",
            };
            for (int i = 0; i < around.length; i += 2) {
                dueError(around[i].length(), around[i] + around[i + 1]);
                dueError(around[i].length() + 3, around[i] + "1234" + around[i + 1]);
                dueError(around[i].length() + 3, around[i] + "0001" + around[i + 1]);
            }
        });
    }

    private void offsets() {
        test(TERMS, "The offset of a syntax error is the index of the first character that cannot follow the characters"
            + " ahead of it in any input; it is the length of the input if the input ends too early.", () -> {
            String[] inputs = {
                "part;part", "note 1 12 3", "rest 2 4", "last 3", "move 1 -10", "tune 2 12/345", "cue 1>2", "alone 1",
                "bar 7", "tempo 12 100", "play 2;bar 3",
            };
            List<String> wrong = new ArrayList<>();
            for (String input : inputs) {
                dueOffset(input);
                for (int at = 0; at <= input.length(); at++) {
                    dueOffset(input.substring(0, at));
                    for (char character = 32; character <= 126; character++) {
                        String ahead = input.substring(0, at) + character;
                        if (!isOffsetRight(ahead + input.substring(at))) {
                            wrong.add(ahead + input.substring(at));
                        }
                        if (at < input.length() && !isOffsetRight(ahead + input.substring(at + 1))) {
                            wrong.add(ahead + input.substring(at + 1));
                        }
                    }
                }
            }
            due(List.of(), wrong);
        });
    }

    private void dueOffset(String input) {
        due(input, isOffsetRight(input) ? input : "another offset");
    }

    private static boolean isOffsetRight(String input) {
        CutleryOrchestra x = States.five();
        Object answer = Check.answer(() -> Check.run(x, input));
        if (INPUT.matcher(input).matches()) {
            return answer != Check.ARGUMENT && Check.answer(x::syntaxErrorOffset) == Check.ELEMENT;
        }
        return answer == Check.ARGUMENT && x.syntaxErrorOffset() == errorOffset(input);
    }

    private static int errorOffset(String input) {
        int offset = 0;
        while (offset < input.length() && canGoOn(input.substring(0, offset + 1))) {
            offset++;
        }
        return offset;
    }

    /** Whether an input can begin so: the pattern matches, or asks for more. */
    private static boolean canGoOn(String beginning) {
        Matcher matcher = INPUT.matcher(beginning);
        return matcher.matches() || matcher.hitEnd();
    }
}
