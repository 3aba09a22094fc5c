/** Each sentence of the document that names a boundary case has a test of its own. */
public final class EdgesTest {
    public static void main(String[] args) throws Exception {
        Check check = new Check();
        Edges edges = new Edges(check);
        new EdgesOfText(check, edges).run();
        new EdgesOfNow(check, edges).run();
        new EdgesOfLots(check, edges).run();
        new EdgesOfOdds(check, edges).run();
        new EdgesOfActs(check, edges).run();
        edges.end();
        check.end();
    }
}
