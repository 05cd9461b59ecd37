import java.io.IOException;
import java.nio.file.Path;

/** Each sentence of the document that names a boundary case, by a test of its own. */
public final class EdgeTest {
  public static void main(String[] args) throws IOException {
    Edges edges = new Edges(Path.of("../shared/DOC.md"));
    new TermEdges(edges).all();
    new HouseEdges(edges).all();
    new TextEdges(edges).all();
    new DayEdges(edges).all();
    new LineEdges(edges).all();
    new WrittenEdges(edges).all();
    new ThereEdges(edges).all();
    new RefusedEdges(edges).all();
    if (!edges.end()) {
      System.exit(1);
    }
  }
}
