import java.io.IOException;
import java.nio.file.Path;

/** Each sentence of the document's terms and promises, with a test of its edges; none may be left out. */
public final class EdgesTest {
    private EdgesTest() { }

    public static void main(String[] args) throws IOException {
        Check.doc = new Doc(Path.of("../shared/DOC.md"));
        TextEdges.run();
        TownEdges.run();
        WayEdges.run();
        PavingEdges.run();
        TrackEdges.run();
        KindEdges.run();
        for (String left : Check.doc.unquoted()) {
            Check.wrong++;
            System.out.println("no test quotes " + left);
        }
        System.out.println(Check.asked + " answers, " + Check.wrong + " of them wrong");
        if (Check.wrong != 0) {
            System.exit(1);
        }
    }
}
