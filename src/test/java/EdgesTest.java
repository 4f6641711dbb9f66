import java.nio.file.Path;
import java.util.List;

/** Each sentence of the document, with the boundary cases that it names; no word of terms or promises is left out. */
public final class EdgesTest {
    public static void main(String[] args) throws Exception {
        Checks checks = new Checks();
        Doc doc = new Doc(Path.of("../shared/DOC.md"));
        for (Edges part : List.of(new EdgesOfTexts(checks, doc), new EdgesOfWishes(checks, doc),
                new EdgesOfTables(checks, doc), new EdgesOfRollouts(checks, doc), new EdgesOfBooks(checks, doc))) {
            part.all();
        }
        for (String words : doc.left()) {
            checks.known("a test speaks of " + words, false);
        }
        checks.finish("EdgesTest");
    }
}
