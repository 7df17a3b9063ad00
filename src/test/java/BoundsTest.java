import java.io.IOException;
import java.nio.file.Path;

/** The document's boundaries, promise by promise; with an argument only the tests whose names hold it are run. */
final class BoundsTest {
    public static void main(String[] args) throws IOException {
        Bounds b = new Bounds(new Doc(Path.of("../shared/DOC.md")), args.length == 0 ? "" : args[0]);
        TermBounds.all(b);
        TextBounds.all(b);
        RideBounds.all(b);
        SittingBounds.all(b);
        WhereBounds.all(b);
        ReadingBounds.all(b);
        SheetBounds.all(b);
        PartBounds.all(b);
        b.end();
    }
}
