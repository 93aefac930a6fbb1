import java.lang.reflect.Method;

/** Each promise, and the terms (p00), has tests of edges that are named by it. */
public final class EdgesCoverTest {
    private static final Check c = new Check();
    private static final int PROMISES = 49;

    private static final Class<?>[] GROUPS = {
        EdgesOfTermsTest.class, EdgesOfSquareTest.class, EdgesOfHoursTest.class, EdgesOfOrdersTest.class,
        EdgesOfBesideTest.class, EdgesOfPlacesTest.class, EdgesOfTextsTest.class, EdgesOfSheetsTest.class,
        EdgesOfImagesTest.class};

    public static void main(String[] args) {
        int[] tests = new int[PROMISES + 1];
        for (Class<?> group : GROUPS) {
            for (Method each : group.getDeclaredMethods()) {
                if (each.getName().matches(Edges.TEST_NAME)) {
                    int promise = Integer.parseInt(each.getName().substring(1, 3));
                    c.holds(each.getName() + " is of a promise", promise <= PROMISES);
                    tests[Math.min(promise, PROMISES)]++;
                }
            }
        }
        for (int promise = 0; promise <= PROMISES; promise++) {
            c.holds("promise " + promise + " has tests of its edges", tests[promise] > 0);
        }
        c.end();
    }
}
