import java.nio.file.Files;
import java.nio.file.Path;
import java.nio.file.Paths;

/** Every sentence of the document, promise by promise, with a test of its own at the boundaries that it names. */
public final class BoundaryTest {
    public static void main(String[] args) throws Exception {
        LoadEdges.all();
        QueryEdges.all();
        LookEdges.all();
        OperationEdges.all();
        TickEdges.all();
        MeasureEdges.all();
        HistoryEdges.all();
        Path document = Paths.get(System.getProperty("document", "../shared/DOC.md"));
        if (Files.exists(document)) {
            Edge.compareWith(Document.read(document));
        } else {
            System.out.println("there is no " + document + ": the quotes are not compared with it");
        }
        System.out.println(Edge.count() + " boundary cases");
        Check.end("BoundaryTest");
    }
}
