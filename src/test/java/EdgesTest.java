/**
 * The edges that the document names, sentence by sentence: the least and the most, one less and one
 * more, empty and full, where numbers wrap around, what is refused and what that leaves as it was.
 */
public final class EdgesTest {
  public static void main(String[] args) throws Exception {
    Sentences.read();
    TermEdges.all();
    MadeEdges.all();
    TextEdges.all();
    StateEdges.all();
    FormCallEdges.all();
    MadeCallEdges.all();
    StateCallEdges.all();
    Sentences.end();
    Due.end();
  }
}
