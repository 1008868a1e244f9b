import java.nio.file.Path;

/** Runs the project's own tests: java AllTests PATH-TO-SHARED, from the root of the project. */
public final class AllTests {
    public static void main(String[] arguments) {
        Checks checks = new Checks();
        new PromiseTests(checks).run();
        new RefusalTests(checks).run();
        new FaceTests(checks).run(Path.of(arguments.length > 0 ? arguments[0] : "../shared"));
        RandomRuns runs = new RandomRuns();
        checks.test("random runs", () -> checks.due("", runs.firstDifference()));
        checks.test("random runs come to all that the document lists", () -> checks.due("[]", "" + runs.unseen()));
        System.out.println(checks.summary());
        System.exit(checks.isAllPassed() ? 0 : 1);
    }
}
