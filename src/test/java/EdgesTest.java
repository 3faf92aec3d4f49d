/**
 * Each sentence of the document that names an edge, with a test of its own: the last value that is
 * taken and the first that isn't, the empty and the full, what stops and what wraps round, and
 * each refused call. In the end nothing of the document's words has been passed over.
 */
public final class EdgesTest {
  public static void main(String[] args) {
    TermsEdges.all();
    ShipTermsEdges.all();
    TickTermsEdges.all();
    TextTermsEdges.all();
    ShipsEdges.all();
    TicksEdges.all();
    LastTickEdges.all();
    AheadEdges.all();
    ShineEdges.all();
    SeenEdges.all();
    NightsEdges.all();
    TextsEdges.all();
    SheetsEdges.all();
    ImagesEdges.all();
    Words.allSaid();
    Due.end();
  }
}
