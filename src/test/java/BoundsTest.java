import java.nio.file.Path;

/** Promises 1 to 31: each sentence of the document that names a boundary, with tests of its own. */
public final class BoundsTest {
    public static void main(String[] args) throws Exception {
        Bounds.read(Path.of(args.length > 0 ? args[0] : ".", "../shared/DOC.md"));
        NetBounds.all();
        TextBounds.all();
        StatesBounds.all();
        MakesBounds.all();
        CuresBounds.all();
        DelaysBounds.all();
        RunBounds.all();
        SheetsBounds.all();
        Bounds.finish();
    }
}
