import java.io.IOException;

/**
 * The document sentence by sentence: each is quoted as DOC.md has it and tested where it names a
 * boundary; what no test quotes is told as missing.
 */
public final class EdgesTest {
    public static void main(String[] args) throws IOException {
        Edges e = new Edges();
        new GroundEdges(e).run();
        new TextEdges(e).run();
        new LawEdges(e).run();
        new OrderEdges(e).run();
        new TapeEdges(e).run();
        new ActEdges(e).run();
        new QuestionEdges(e).run();
        new BedEdges(e).run();
        new PaperEdges(e).run();
        e.finish("EdgesTest");
    }
}
