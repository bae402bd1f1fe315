/** The boundary cases of all promises; each test names the promise and the sentence that it holds. */
public final class EdgesTest {
    public static void main(String[] args) {
        TextEdges.run();
        CourtEdges.run();
        HourEdges.run();
        ComingEdges.run();
        YearEdges.run();
        Quotes.check();
        Check.finish();
    }
}
