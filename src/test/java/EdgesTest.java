/**
 * Every sentence of the document that names an edge, each by a test of its own that says which promise (or term) and which
 * words it holds; at the end no word of the terms and promises may be left that no test quotes.
 */
final class EdgesTest {
    public static void main(String[] args) throws Exception {
        Due due = new Due("EdgesTest");
        Edges edges = new Edges(due);
        new CityEdges(edges).hold();
        new RoadEdges(edges).hold();
        new StormEdges(edges).hold();
        new TextEdges(edges).hold();
        new HourEdges(edges).hold();
        new AheadEdges(edges).hold();
        new HostEdges(edges).hold();
        new RefusalEdges(edges).hold();
        constants(due);
        edges.end();
        due.end();
    }

    /** ==== 1: "NONE is -1; NO, where a long is answered, -4611686018427387904", BAD -2, STATE -3, FULL -4. */
    private static void constants(Due due) {
        due.is("NONE", FloodCity.NONE, -1);
        due.is("BAD", FloodCity.BAD, -2);
        due.is("STATE", FloodCity.STATE, -3);
        due.is("FULL", FloodCity.FULL, -4);
        due.is("NO", FloodCity.NO, -4611686018427387904L);
    }
}
