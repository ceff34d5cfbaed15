/**
 * Each sentence of the document that names a boundary: too small, too large, empty, full, a wrap-around, a refused
 * call. Its words stand above its answers: most were worked out by hand; some are those of other calls that must agree
 * (HOURS that pass for those foretold, a twin for what is refused).
 */
public final class EdgesTest {
    private EdgesTest() {
    }

    public static void main(String[] args) {
        Checks checks = new Checks();
        new EdgesOfRows(checks).run();
        new EdgesOfTexts(checks).run();
        new EdgesOfHours(checks).run();
        new EdgesOfActs(checks).run();
        new EdgesOfStanding(checks).run();
        new EdgesAhead(checks).run();
        new EdgesOfSearches(checks).run();
        new EdgesHeard(checks).run();
        new EdgesOfChance(checks).run();
        new EdgesOfAsks(checks).run();
        new Refusals(checks).run();
        checks.part("all promises");
        checks.due("each was named", checks.namedAllPromises(40) ? 1 : 0, 1);
        checks.end();
    }
}
