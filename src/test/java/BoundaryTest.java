import java.io.IOException;

/** Every sentence of the document at its edges: too small, too large, empty, full, wrapped around, refused. */
public final class BoundaryTest {
    public static void main(String[] args) throws IOException {
        SheetEdges.run();
        ThingEdges.run();
        AskEdges.run();
        PartEdges.run();
        FlowEdges.run();
        RunnerEdges.run();
        LayerEdges.run();
        PressEdges.run();
        RefusalEdges.run();
        Edge.checkDocument();
        Due.end();
    }
}
