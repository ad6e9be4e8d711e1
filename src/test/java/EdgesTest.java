/** Each sentence of the document that names a boundary case, by a test of its own. */
public final class EdgesTest {
    public static void main(String[] args) throws Exception {
        Edges edges = new Edges();
        edges.runAll(EdgesOfText.class);
        edges.runAll(EdgesOfDoing.class);
        edges.runAll(EdgesOfTrying.class);
        edges.runAll(EdgesOfSeeing.class);
        edges.runAll(EdgesOfRefusals.class);
        edges.finish();
    }
}
