import java.nio.file.Path;

/** Runs the project's own tests: java AllTests PATH-TO-SHARED, from the root of the project. */
public final class AllTests {
    public static void main(String[] arguments) throws Exception {
        Path shared = Path.of(arguments.length > 0 ? arguments[0] : "../shared");
        Checks checks = new Checks();
        new PromiseTests(checks).run();
        bounds(checks, new Document(shared.resolve("DOC.md")));
        new FaceTests(checks).run(shared);
        new ReadmeTests(checks).run();
        RandomRuns runs = new RandomRuns();
        checks.test("random runs", () -> checks.due("", runs.firstDifference()));
        checks.test("random runs come to all that the document lists", () -> checks.due("[]", "" + runs.unseen()));
        System.out.println(checks.summary());
        System.exit(checks.isAllPassed() ? 0 : 1);
    }

    private static void bounds(Checks checks, Document document) {
        new MailTermBounds(checks, document).run();
        new WorkTermBounds(checks, document).run();
        new TimeBounds(checks, document).run();
        new MailBounds(checks, document).run();
        new TicketBounds(checks, document).run();
        new AgentBounds(checks, document).run();
        new AnswerBounds(checks, document).run();
        new CountBounds(checks, document).run();
        checks.test("the document was read", () -> checks.due(true, document.size() > 200));
        checks.test("each sentence of terms and promises has a test",
            () -> checks.due("[]", document.untested().toString()));
    }
}
