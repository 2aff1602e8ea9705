import java.io.IOException;

/** Each sentence of the document that names a boundary case: the boundary, what is just within it and just beyond it. */
public final class BoundariesTest {
    private BoundariesTest() {
    }

    public static void main(String[] args) throws IOException {
        TermsBounds.all();
        SearchBounds.all();
        CallBounds.all();
        Bounds.tellUnquoted();
        System.out.println(Script.calls + " calls, " + Script.wrong + " not as due");
        if (Script.wrong > 0) {
            System.exit(1);
        }
    }
}
