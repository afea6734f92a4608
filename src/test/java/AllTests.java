/** Runs every test of the project; the exit code is 1 if an answer is not as due. */
public final class AllTests {
    private AllTests() {
    }

    public static void main(String[] args) {
        FaceTest.run();
        TanksAndStepsTest.run();
        RulesAndPeopleTest.run();
        CountTest.run();
        WhatThereIsTest.run();
        LogAndFiguresTest.run();
        RandomRunsTest.run();
        System.out.println(Check.passed() + " passed, " + Check.failed() + " failed");
        if (Check.failed() != 0) {
            System.exit(1);
        }
    }
}
