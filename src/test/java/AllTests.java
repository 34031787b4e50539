/** Runs every test of the project; ends with exit code 1 if one fails. */
public final class AllTests {
    public static void main(String[] arguments) throws Exception {
        Check c = new Check();
        PartsTest.run(c);
        TicksTest.run(c);
        PatternsTest.run(c);
        TuningsTest.run(c);
        CuesTest.run(c);
        TemposTest.run(c);
        PlayingTest.run(c);
        CommandsTest.run(c);
        HistoryTest.run(c);
        FaceTest.run(c, arguments);
        ModelTest.run(c);
        System.out.println(c.passed() + " passed, " + c.failed() + " failed");
        System.exit(c.failed() == 0 ? 0 : 1);
    }
}
