import java.io.IOException;
import java.nio.file.Files;
import java.nio.file.Path;

/** Each boundary of 'Terms' and of promises 1 to 48, under the document's own words. */
public final class EdgesTest {
    public static void main(String[] args) throws IOException {
        Edges edges = new Edges(Files.readString(Path.of("../shared/DOC.md")));
        EdgesOfTerms.run(edges);
        EdgesOfMarkets.run(edges);
        EdgesOfMonths.run(edges);
        EdgesOfPrices.run(edges);
        EdgesOfCounting.run(edges);
        EdgesOfKept.run(edges);
        edges.allAreNamed();
        if (args.length > 0 && args[0].equals("names")) {
            edges.list();
        }
        edges.checks.finish();
    }
}
