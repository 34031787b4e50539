import java.nio.file.Files;
import java.nio.file.Path;

/** Runs every test of the project; ends with exit code 1 if one fails. */
public final class AllTests {
    public static void main(String[] arguments) throws Exception {
        Check c = new Check();
        PartsTest.run(c);
        TicksTest.run(c);
        PatternsTest.run(c);
        TuningsTest.run(c);
        CuesTest.run(c);
        TemposTest.run(c);
        PlayingTest.run(c);
        CommandsTest.run(c);
        HistoryTest.run(c);
        FaceTest.run(c, arguments);
        sentences(c, arguments);
        ModelTest.run(c);
        System.out.println(c.passed() + " passed, " + c.failed() + " failed");
        System.exit(c.failed() == 0 ? 0 : 1);
    }

    private static void sentences(Check c, String[] arguments) throws Exception {
        Book book = new Book(arguments.length == 2 ? Files.readString(Path.of(arguments[1])) : "");
        SentenceTest[] tests = {
            new PartSentences(c, book), new TickSentences(c, book), new PatternSentences(c, book),
            new TuningSentences(c, book), new CueSentences(c, book), new TempoSentences(c, book),
            new PlaySentences(c, book), new TextSentences(c, book), new HistorySentences(c, book),
            new ConstantSentences(c, book), new TermSentences(c, book), new CommandSentences(c, book),
            new RuleSentences(c, book),
        };
        for (SentenceTest test : tests) {
            test.run();
        }
        book.dueOneTestForEach(c);
    }
}
