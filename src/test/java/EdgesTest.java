/**
 * For each sentence of the document that names a boundary case, checks of its own, headed by the sentence's words:
 * the least and the greatest, one too small, one too large, nothing, all, what wraps, what is refused and stays.
 */
public final class EdgesTest extends Checks {
    public static void main(String[] args) throws Exception {
        watch();
        TextEdges.all();
        NightEdges.all();
        WayEdges.all();
        ChoiceEdges.all();
        CountEdges.all();
        ChangeEdges.all();
        RefusalEdges.all();
        heldAgainst(document());
        finish("the edges hold");
    }
}
