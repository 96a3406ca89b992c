/**
 * Each sentence of the document that names an edge (too small, too large, empty, full, a refused
 * call), with a test of its own that names the promise by which its answers are due.
 */
public final class EdgeTest {
    private static final int PROMISES = 40;

    public static void main(String[] args) {
        Check check = new Check();
        new TextEdges(check).all();
        new NightEdges(check).all();
        new NotesEdges(check).all();
        new SafeEdges(check).all();
        new Stays(check).all();
        check.allNamed(PROMISES);
        check.end();
    }
}
