import java.io.IOException;

/** What README.md says of .ci/run, tried on small projects, some of them with faults. */
public final class RunScriptTest {
    private static final Kit KIT = new Kit("RunScriptTest");

    private static final String OWN = "project/src/test/java/";
    private static final String SHARED = "shared/tests/";
    private static final int PASSES = 0;
    private static final int FAILS = 1;

    public static void main(String[] args) throws IOException, InterruptedException {
        allPass();
        someFail();
        onlyTheLastSharedOneFails();
        ownTestsDoNotCompile();
        classDoesNotCompile();
        noSharedTests();
        KIT.end();
    }

    private static Workshop project() throws IOException {
        Workshop workshop = new Workshop();
        workshop.copy(".ci/run", "project/.ci/run");
        workshop.write("project/src/main/java/CatalogQuery.java",
                "public final class CatalogQuery {}");
        return workshop;
    }

    private static void addTest(Workshop workshop, String directory, String name, String body)
            throws IOException {
        workshop.write(directory + name + ".java", "public final class " + name
                + " { public static void main(String[] args) { new CatalogQuery(); " + body
                + " } }");
    }

    private static void dueOf(Workshop workshop, int exitCode, String... lines)
            throws IOException, InterruptedException {
        KIT.due("exit code of .ci/run", workshop.run("project", ".ci/run"), exitCode);
        String output = workshop.output();
        for (String line : lines) {
            KIT.due("there is a line " + line + " in " + output,
                    ("\n" + output).contains("\n" + line + "\n") ? 1 : 0, 1);
        }
        if (lines.length > 0) {
            KIT.due("the last line of " + output, output.endsWith(lines[lines.length - 1] + "\n")
                    ? 1 : 0, 1);
        }
    }

    private static void allPass() throws IOException, InterruptedException {
        try (Workshop workshop = project()) {
            addTest(workshop, SHARED, "Runs", "");
            addTest(workshop, SHARED, "More", "");
            addTest(workshop, OWN, "OneTest", "Help.help();");
            // What the tests share is compiled with them, but is no test.
            workshop.write(OWN + "Help.java", "class Help { static void help() {} }");
            dueOf(workshop, PASSES, "ok      Runs", "ok      More", "ok      OneTest",
                    "3 passed, 0 failed");
            KIT.due("from elsewhere", workshop.run("shared", "../project/.ci/run"), PASSES);
        }
    }

    private static void someFail() throws IOException, InterruptedException {
        try (Workshop workshop = project()) {
            addTest(workshop, SHARED, "Good", "");
            addTest(workshop, SHARED, "Bad", "System.exit(1);");
            addTest(workshop, SHARED, "Broken", "int x = ;");
            addTest(workshop, OWN, "GoodTest", "");
            addTest(workshop, OWN, "BadTest", "System.exit(1);");
            addTest(workshop, OWN, "ThrowingTest", "throw new IllegalStateException();");
            dueOf(workshop, FAILS, "ok      Good", "FAILED  Bad", "FAILED  Broken",
                    "ok      GoodTest", "FAILED  BadTest", "FAILED  ThrowingTest",
                    "2 passed, 4 failed");
        }
    }

    private static void onlyTheLastSharedOneFails() throws IOException, InterruptedException {
        try (Workshop workshop = project()) {
            addTest(workshop, SHARED, "Good", "");
            addTest(workshop, SHARED, "Runs", "System.exit(1);");
            addTest(workshop, OWN, "GoodTest", "");
            dueOf(workshop, FAILS, "ok      Good", "FAILED  Runs", "ok      GoodTest",
                    "2 passed, 1 failed");
        }
    }

    private static void ownTestsDoNotCompile() throws IOException, InterruptedException {
        try (Workshop workshop = project()) {
            addTest(workshop, SHARED, "Runs", "");
            addTest(workshop, OWN, "OneTest", "int x = ;");
            dueOf(workshop, FAILS, "ok      Runs", "FAILED  compiling the tests of the project",
                    "1 passed, 1 failed");
        }
    }

    private static void classDoesNotCompile() throws IOException, InterruptedException {
        try (Workshop workshop = project()) {
            workshop.write("project/src/main/java/CatalogQuery.java", "class CatalogQuery {");
            addTest(workshop, SHARED, "Runs", "");
            addTest(workshop, OWN, "OneTest", "");
            dueOf(workshop, FAILS, "0 passed, 2 failed");
        }
    }

    private static void noSharedTests() throws IOException, InterruptedException {
        try (Workshop workshop = project()) {
            addTest(workshop, OWN, "OneTest", "");
            dueOf(workshop, FAILS);
        }
    }
}
