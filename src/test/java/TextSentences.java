import java.util.EnumSet;

/** The sentences of promises 53 to 57: text output and commands. */
final class TextSentences extends SentenceTest {
    private static final String LONGEST = "4(97/98)>0 35*12 35*12 35*12 35*12 35*12 35*12 35*12 35*12 35*12 35*12";

    TextSentences(Check check, Book book) {
        super(check, book);
    }

    @Override
    void run() {
        writePart();
        outputAt();
        appendInput();
        execute();
        syntaxErrorOffset();
    }

    private void writePart() {
        test(53, "Writes a part to the output, in place of the earlier output: its index, \"(\", its tuning as"
            + " numerator, \"/\" and denominator, \")\"; \">\" and the part from which it takes its cue if it has one;"
            + " and for each note a space, its pitch, or \"-\" for a rest, and \"*\" and its length.", () -> {
            due("0(1/1)", Check.written(Check.withParts(1), 0));
            due(LONGEST, Check.written(States.full(), 4));
            // The shortest output in place of the longest one.
            CutleryOrchestra x = States.full();
            for (int i = 0; i < 10; i++) {
                x.removeLast(0);
            }
            x.removeCue(0);
            x.writePart(0);
            due("0(1/1)", States.output(x));
            CutleryOrchestra y = Check.withParts(2);
            y.setTuning(0, 99, 1);
            y.setCue(0, 1);
            due("0(99/1)>1", Check.written(y, 0));
            y.removeCue(0);
            Check.add(y, 0, "-*1 -*12 0*1 35*12 -*1");
            due("0(99/1) -*1 -*12 0*1 35*12 -*1", Check.written(y, 0));
        });
        test(53, "An example is \"1(3/2)>0 12*4 -*2 7*8\".", () -> {
            CutleryOrchestra x = Check.withParts(2);
            x.setTuning(1, 3, 2);
            x.setCue(1, 0);
            Check.add(x, 1, "12*4 -*2 7*8");
            due(21, x.writePart(1));
            due("1(3/2)>0 12*4 -*2 7*8", States.output(x));
        });
        partArgument(53, 10, 36, (x, part) -> x.writePart(part));
        test(53, "Returns the length of the output.", () -> {
            due(6, Check.withParts(1).writePart(0));
            due(70, States.full().writePart(4));
            due(6, Check.withParts(5).writePart(4));
        });
    }

    private void outputAt() {
        test(54, "Returns a character of the output.", () -> {
            CutleryOrchestra x = States.full();
            for (int i = 0; i < LONGEST.length(); i++) {
                due(LONGEST.charAt(i), x.outputAt(i));
            }
            // It is what was written, not what the part is now.
            x.removeLast(4);
            x.setCue(4, 1);
            due(LONGEST, States.output(x));
        });
        test(54, "The output is empty at first.", () -> {
            CutleryOrchestra x = new CutleryOrchestra();
            thrown(Check.INDEX, () -> x.outputAt(0));
            // A call of writePart that throws writes nothing.
            thrown(Check.INDEX, () -> x.writePart(0));
            thrown(Check.INDEX, () -> x.outputAt(0));
        });
        test(54, "- `index`: the index, from 0", () -> {
            due('4', States.full().outputAt(0));
            due('2', States.full().outputAt(69));
            thrown(Check.INDEX, () -> States.full().outputAt(-1));
            thrown(Check.INDEX, () -> States.full().outputAt(70));
        });
        test(54, "Returns the character.", () -> {
            CutleryOrchestra x = Check.withParts(1);
            x.writePart(0);
            due('0', x.outputAt(0));
            due(')', x.outputAt(5));
        });
        test(54, "Throws `IndexOutOfBoundsException` if there is no character at this index", () -> {
            thrown(Check.INDEX, () -> new CutleryOrchestra().outputAt(-1));
            for (int index : EXTREMES) {
                thrown(Check.INDEX, () -> States.full().outputAt(index));
            }
            changesNothing(Check.INDEX, States::busy, x -> x.outputAt(-1));
            changesNothing(Check.INDEX, States::busy, x -> x.outputAt(1000));
            // A shorter output leaves nothing of a longer one.
            CutleryOrchestra x = Check.withParts(2);
            x.addNote(0, 1, 1);
            due(10, x.writePart(0));
            due('1', x.outputAt(9));
            due(6, x.writePart(1));
            due(')', x.outputAt(5));
            for (int index = 6; index < 10; index++) {
                int behind = index;
                thrown(Check.INDEX, () -> x.outputAt(behind));
            }
        });
    }

    private static void typeAll(CutleryOrchestra x, char character, int times) {
        for (int i = 0; i < times; i++) {
            x.appendInput(character);
        }
    }

    private void appendInput() {
        test(55, "Appends a character to the input.", () -> {
            CutleryOrchestra x = Check.withParts(1);
            Check.type(x, "bar 1");
            x.appendInput('2');
            due(1, x.execute());
            due(12, x.barLength());
        });
        test(55, "- `character`: the character, with a code from 32 to 126", () -> {
            CutleryOrchestra x = new CutleryOrchestra();
            due(1, x.appendInput((char) 32));
            due(2, x.appendInput((char) 126));
            thrown(Check.ARGUMENT, () -> x.appendInput((char) 31));
            thrown(Check.ARGUMENT, () -> x.appendInput((char) 127));
            for (int code = 33; code < 91; code++) {
                due(code - 30, x.appendInput((char) code));
            }
            CutleryOrchestra y = new CutleryOrchestra();
            for (int code = 91; code < 126; code++) {
                due(code - 90, y.appendInput((char) code));
            }
        });
        test(55, "Returns the length of the input after the call.", () -> {
            CutleryOrchestra x = new CutleryOrchestra();
            for (int length = 1; length <= 60; length++) {
                due(length, x.appendInput('~'));
            }
            Check.answer(x::execute);
            due(1, x.appendInput('~'));
        });
        test(55, "Throws `IllegalArgumentException` if the code is out of range", () -> {
            for (int code : new int[] {0, 9, 10, 31, 127, 128, 255, 256, 32767, 32768, 65535}) {
                thrown(Check.ARGUMENT, () -> new CutleryOrchestra().appendInput((char) code));
            }
            changesNothing(Check.ARGUMENT, States::busy, x -> x.appendInput((char) 31));
            changesNothing(Check.ARGUMENT, States::busy, x -> x.appendInput((char) 127));
        });
        test(55, "Throws `IllegalStateException` if the input has 60 characters", () -> {
            CutleryOrchestra x = new CutleryOrchestra();
            typeAll(x, ' ', 59);
            due(60, x.appendInput(' '));
            thrown(Check.STATE, () -> x.appendInput(' '));
            thrown(Check.STATE, () -> x.appendInput('~'));
            changesNothing(Check.STATE, States::full, y -> y.appendInput(';'));
        });
    }

    private void execute() {
        test(56, "Executes the commands of the input, all of them or none.", () -> {
            CutleryOrchestra x = States.full();
            due(7, x.execute());
            due(9, x.barLength());
            due(960 + 140, x.playedTicks());
            due(100, x.tempoAt(0));
            due("4(97/98)>0 0*12 0*12 0*12 0*12 0*12 0*12 0*12 0*12 0*12 1*1", Check.written(x, 4));
            // The last command of seven is rejected, or fails.
            fails(Check.REJECTED, "part;rest 0 1;cue 0>1;bar 9;tempo 9 99;play 1;part");
            fails(Check.STATE, "part;rest 0 1;cue 0>1;bar 9;tempo 9 99;play 1;bar 0");
            fails(Check.ARGUMENT, "part;rest 0 1;cue 0>1;bar 9;tempo 9 99;play 1;bar");
        });
        test(56, "The input is empty after the call, also if an exception is thrown.", () -> {
            String[] inputs = {"bar 9", "bar 49", "alone 0", "bar 9;", ""};
            Object[] answers = {1, Check.STATE, Check.REJECTED, Check.ARGUMENT, Check.ARGUMENT};
            for (int i = 0; i < inputs.length; i++) {
                CutleryOrchestra x = Check.withParts(1);
                Check.type(x, inputs[i]);
                due(answers[i], Check.answer(x::execute));
                thrown(Check.ARGUMENT, x::execute);
                due(0, x.syntaxErrorOffset());
                due(1, x.appendInput('p'));
            }
            CutleryOrchestra y = States.full();
            y.execute();
            due(1, y.appendInput(' '));
        });
        test(56, "Returns the number of commands.", () -> {
            due(1, Check.run(new CutleryOrchestra(), "part"));
            due(2, Check.run(new CutleryOrchestra(), "part;part"));
            due(11, Check.run(new CutleryOrchestra(), "part;part;part;part;part;bar 1;bar 2;bar 3;bar 4;bar 5;bar 6"));
        });
        test(56, "Throws `IllegalArgumentException` if the input has a syntax error; syntaxErrorOffset returns its"
            + " offset", () -> {
            EnumSet<States.Look> error = EnumSet.of(States.Look.ERROR);
            String[] inputs = {"", ";", "part;", "bar 9;x", "part;part;bar 9;play"};
            int[] offsets = {0, 0, 5, 6, 20};
            for (int i = 0; i < inputs.length; i++) {
                String input = inputs[i];
                changesNothing(Check.ARGUMENT, States::ready, typed(input), error);
                CutleryOrchestra x = Check.withParts(1);
                thrown(Check.ARGUMENT, () -> Check.run(x, input));
                due(offsets[i], x.syntaxErrorOffset());
            }
        });
        test(56, "Throws `IllegalStateException` if the first command that fails does so for another reason than a"
            + " rejection: its method throws another exception than UnsupportedOperationException", () -> {
            String[] inputs = {
                "note 3 1 1", "note 9 1 1", "note 0 36 1", "note 0 1 0", "note 0 1 13", "rest 3 1", "rest 0 0",
                "rest 0 13", "last 3", "move 3 0", "move 0 36", "move 0 -36", "tune 3 1/1", "tune 0 0/1", "tune 0 1/0",
                "tune 0 100/1", "tune 0 1/100", "cue 3>0", "cue 0>3", "cue 0>0", "alone 3", "bar 0", "bar 49",
                "tempo 0 29", "tempo 0 241", "play 0", "play 21",
            };
            for (String input : inputs) {
                changesNothing(Check.STATE, States::ready, typed(input));
            }
            // What fails later does not count.
            changesNothing(Check.STATE, States::ready, typed("bar 9;bar 0;alone 1"));
            changesNothing(Check.STATE, States::ready, typed("part;part;last 5;part"));
        });
        test(56, "Throws `UnsupportedOperationException` if the call is rejected with the reason COMMAND_REJECTED",
            this::rejectedCommands);
    }

    private static On typed(String input) {
        return x -> Check.run(x, input);
    }

    private void fails(Class<?> type, String input) {
        CutleryOrchestra x = Check.withParts(4);
        String before = States.told(x);
        thrown(type, () -> Check.run(x, input));
        due(before, States.told(x));
        due(3, x.undo());
    }

    private void rejectedCommands() {
        EnumSet<States.Look> rejection = EnumSet.of(States.Look.REJECTION);
        String[] inputs = {"alone 1", "bar 9;part;alone 1", "alone 1;bar 0", "part;part;part", "cue 1>0;cue 1>0;bar 0"};
        int[] numbers = {0, 2, 0, 2, 1};
        int[] causes = {
            CutleryOrchestra.NO_CUE, CutleryOrchestra.NO_CUE, CutleryOrchestra.NO_CUE, CutleryOrchestra.PART_LIMIT,
            CutleryOrchestra.SAME_CUE,
        };
        for (int i = 0; i < inputs.length; i++) {
            changesNothing(Check.REJECTED, States::ready, typed(inputs[i]), rejection);
            CutleryOrchestra x = States.ready();
            String input = inputs[i];
            thrown(Check.REJECTED, () -> Check.run(x, input));
            due(CutleryOrchestra.COMMAND_REJECTED, x.rejectionReason());
            due(numbers[i], x.rejectionDetail());
            due(causes[i], x.causeReason());
        }
    }

    private void syntaxErrorOffset() {
        test(57, "Returns the offset of the latest syntax error.", () -> {
            CutleryOrchestra x = new CutleryOrchestra();
            thrown(Check.ARGUMENT, () -> Check.run(x, "par"));
            due(3, x.syntaxErrorOffset());
            thrown(Check.ARGUMENT, () -> Check.run(x, "b"));
            due(1, x.syntaxErrorOffset());
            // Neither commands that are executed nor ones that fail otherwise are syntax errors.
            Check.run(x, "part");
            thrown(Check.STATE, () -> Check.run(x, "bar 0"));
            thrown(Check.REJECTED, () -> Check.run(x, "alone 0"));
            due(1, x.syntaxErrorOffset());
        });
        test(57, "Returns the offset.", () -> {
            CutleryOrchestra x = new CutleryOrchestra();
            thrown(Check.ARGUMENT, x::execute);
            due(0, x.syntaxErrorOffset());
            Check.type(x, "part;part;part;part;part;part;part;part;part;part;part;play ");
            thrown(Check.ARGUMENT, x::execute);
            due(60, x.syntaxErrorOffset());
            Check.type(x, "part;part;part;part;part;part;part;part;part;part;part;par.;");
            thrown(Check.ARGUMENT, x::execute);
            due(58, x.syntaxErrorOffset());
        });
        test(57, "Throws `NoSuchElementException` if there was no syntax error", () -> {
            CutleryOrchestra x = new CutleryOrchestra();
            thrown(Check.ELEMENT, x::syntaxErrorOffset);
            Check.run(x, "part");
            thrown(Check.STATE, () -> Check.run(x, "bar 0"));
            thrown(Check.REJECTED, () -> Check.run(x, "alone 0"));
            thrown(Check.ELEMENT, x::syntaxErrorOffset);
            changesNothing(Check.ELEMENT, States::full, CutleryOrchestra::syntaxErrorOffset);
        });
    }
}
