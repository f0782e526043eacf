/** Each sentence of the document that names a boundary case, with a test of its own. */
public final class EdgesTest {
    private EdgesTest() {
    }

    public static void main(String[] args) throws Exception {
        Edges edges = new Edges(args.length > 0 ? args[0] : ".");
        new EdgesOfWorkers(edges).ask();
        new EdgesOfTexts(edges).ask();
        new EdgesOfDays(edges).ask();
        new EdgesOfWays(edges).ask();
        new EdgesOfAsked(edges).ask();
        new EdgesOfActs(edges).ask();
        new EdgesOfTapes(edges).ask();
        new EdgesOfAnswers(edges).ask();
        edges.end();
    }
}
