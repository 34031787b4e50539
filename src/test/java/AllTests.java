import java.nio.file.Files;
import java.nio.file.Path;

/** Runs every test of the project; ends with exit code 1 if one fails. */
public final class AllTests {
    /** The arguments are the paths of the source, of the document, and of README.md. */
    public static void main(String[] arguments) throws Exception {
        Check c = new Check();
        c.due("paths of the source, the document and README.md", 3, arguments.length);
        if (arguments.length == 3) {
            allTests(c, read(arguments[0]), read(arguments[1]), read(arguments[2]));
        }
        System.out.println(c.passed() + " passed, " + c.failed() + " failed");
        System.exit(c.failed() == 0 ? 0 : 1);
    }

    private static String read(String path) throws Exception {
        return Files.readString(Path.of(path));
    }

    private static void allTests(Check c, String source, String document, String readme) throws Exception {
        PartsTest.run(c);
        TicksTest.run(c);
        PatternsTest.run(c);
        TuningsTest.run(c);
        CuesTest.run(c);
        TemposTest.run(c);
        PlayingTest.run(c);
        CommandsTest.run(c);
        HistoryTest.run(c);
        FaceTest.run(c, source, document);
        ReadmeTest.run(c, readme);
        sentences(c, document);
        ModelTest.run(c);
    }

    private static void sentences(Check c, String document) {
        Book book = new Book(document);
        SentenceTest[] tests = {
            new PartSentences(c, book), new TickSentences(c, book), new PatternSentences(c, book),
            new TuningSentences(c, book), new CueSentences(c, book), new TempoSentences(c, book),
            new PlaySentences(c, book), new TextSentences(c, book), new HistorySentences(c, book),
            new ConstantSentences(c, book), new TermSentences(c, book), new CommandSentences(c, book),
            new RuleSentences(c, book),
        };
        for (SentenceTest test : tests) {
            test.run();
        }
        book.dueOneTestForEach(c);
    }
}
