/** Every sentence of the document that names an edge, looked at there and one step beyond. */
public final class EdgeTest {
    public static void main(String[] args) {
        Edges edges = new Edges();
        new TextEdges(edges).look();
        new ProgramEdges(edges).look();
        new AccessEdges(edges).look();
        new ClientEdges(edges).look();
        new TierEdges(edges).look();
        new UndoEdges(edges).look();
        new RefusedEdges(edges).look();
        edges.end();
    }
}
