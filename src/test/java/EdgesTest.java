import java.io.IOException;

/** A test of its own for each sentence of the document that names a boundary case. Run from the project's folder. */
final class EdgesTest {
    private EdgesTest() {
    }

    public static void main(String[] args) throws IOException {
        Sentences.read();
        FirstEdges.all();
        FaceEdges.all();
        HillEdges.all();
        WayEdges.all();
        TextEdges.all();
        RuleEdges.all();
        DayEdges.all();
        PeopleEdges.all();
        AskEdges.all();
        HostEdges.all();
        Sentences.end();
        Due.end("EdgesTest");
    }
}
