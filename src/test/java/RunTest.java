import java.io.IOException;

/** .ci/run, in a small project with tests that pass and tests that fail. */
public final class RunTest {
    private static final String OWN = "main/src/test/java/";
    private static final String SHARED = "shared/tests/";

    /** A program in which NONE has a value. */
    private static String program(int none) {
        return "public final class RatherDesk { public static final int NONE = " + none + "; }\n";
    }

    /** A test that fails if NONE has another value, and prints its name. */
    private static String test(String name, int none) {
        return "public final class " + name + " { public static void main(String[] args) {"
                + " System.out.println(\"" + name + " runs\");"
                + " if (RatherDesk.NONE != " + none + ") { System.exit(1); } } }\n";
    }

    /** A project whose tests pass. */
    private static Workshop project() throws IOException {
        Workshop shop = new Workshop();
        shop.copy(".ci/run", "main/.ci/run");
        shop.write("main/src/main/java/RatherDesk.java", program(-1));
        shop.write(OWN + "FirstTest.java", test("FirstTest", -1));
        shop.write(OWN + "SecondTest.java", test("SecondTest", -1));
        shop.write(SHARED + "Third.java", test("Third", -1));
        shop.write(SHARED + "Fourth.java", test("Fourth", -1));
        return shop;
    }

    /** Runs a project's .ci/run from outside: it passes or not, and these tests run. */
    private static void runs(String what, Workshop shop, boolean passes, String... tests)
            throws IOException, InterruptedException {
        int code = shop.run("bash", shop.place("main/.ci/run"));
        Check.due(".ci/run passes with " + what, passes, code == 0);
        for (String test : tests) {
            Check.due(test + " runs with " + what, true, shop.printed.contains(test + " runs"));
        }
        shop.remove();
    }

    private static void passes() throws IOException, InterruptedException {
        runs("tests that pass", project(), true, "FirstTest", "SecondTest", "Third", "Fourth");
    }

    private static void fails() throws IOException, InterruptedException {
        Workshop shop = project();
        shop.write(OWN + "FirstTest.java", test("FirstTest", 0));
        runs("a failing test", shop, false, "FirstTest", "SecondTest", "Third", "Fourth");
        shop = project();
        shop.write(SHARED + "Fourth.java", test("Fourth", 0));
        runs("a failing test of shared", shop, false, "FirstTest", "SecondTest", "Third", "Fourth");
    }

    private static void failsUncompiled() throws IOException, InterruptedException {
        Workshop shop = project();
        shop.write("main/src/main/java/RatherDesk.java", "final class Other { }\n");
        runs("a program without the class", shop, false);
        shop = project();
        shop.write(OWN + "SecondTest.java", "no test\n");
        runs("a test that does not compile", shop, false);
        shop = project();
        shop.write(SHARED + "Third.java", "no test\n");
        runs("a test of shared that does not compile", shop, false, "Fourth");
    }

    public static void main(String[] args) throws IOException, InterruptedException {
        passes();
        fails();
        failsUncompiled();
        Check.end();
    }
}
