import java.io.IOException;
import java.nio.file.Path;

/** Runs every test of the project; the exit code is 1 if an answer is not as due. */
public final class AllTests {
    private AllTests() {
    }

    public static void main(String[] args) throws IOException {
        FaceTest.run();
        TanksAndStepsTest.run();
        RulesAndPeopleTest.run();
        CountTest.run();
        WhatThereIsTest.run();
        LogAndFiguresTest.run();
        EdgesOfTermsTest.run();
        EdgesOfTanksAndStepsTest.run();
        EdgesOfRulesAndPeopleTest.run();
        EdgesOfTheCountTest.run();
        EdgesOfFiguresTest.run();
        Edges.holdAgainst(Path.of(args.length > 0 ? args[0] : "../shared/DOC.md"));
        ReadmeTest.holdAgainst(Path.of("README.md"));
        RandomRunsTest.run();
        PlainRangeTest.run();
        System.out.println(Check.passed() + " passed, " + Check.failed() + " failed");
        if (Check.failed() != 0) {
            System.exit(1);
        }
    }
}
