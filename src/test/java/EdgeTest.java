/** Each sentence of the document's terms and promises: on the boundary that it names, and on both sides of it. */
public final class EdgeTest {
    public static void main(String[] args) throws Exception {
        Edge edge = new Edge();
        EdgesOfVillages.run(edge);
        EdgesOfTexts.run(edge);
        EdgesOfMatches.run(edge);
        EdgesOfPairs.run(edge);
        edge.finish();
    }
}
