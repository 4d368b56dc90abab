import java.io.IOException;

/** Every sentence of the document that promises something, at its boundary cases. */
public final class EdgesTest {
    public static void main(String[] args) throws IOException {
        Edges edges = new Edges();
        WholeEdges.under(edges);
        TermsEdges.under(edges);
        StuckEdges.under(edges);
        FiveEdges.under(edges);
        LinkEdges.under(edges);
        GoalEdges.under(edges);
        PacketEdges.under(edges);
        edges.compare();
        Edges.CHECK.end();
    }
}
