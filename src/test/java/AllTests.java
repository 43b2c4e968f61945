/** Runs every test of the project; ends with exit code 1 if an answer is not as due. */
public final class AllTests {
    private AllTests() {
    }

    public static void main(String[] args) {
        UsageTest.run();
        FaceTest.run();
        LanguageTest.run();
        TextTest.run();
        QueryTest.run();
        ChangeTest.run();
        BufferLimitTest.run();
        TextLimitTest.run();
        TextEffectLimitTest.run();
        NumberLimitTest.run();
        QueryLimitTest.run();
        HeapLimitTest.run();
        ChangeLimitTest.run();
        RefusalTest.run();
        RoomTest.run();
        ModelTest.run();
        System.out.println(Check.all() + " answers checked, " + Check.wrongOnes() + " not as due");
        if (Check.wrongOnes() != 0) {
            System.exit(1);
        }
    }
}
