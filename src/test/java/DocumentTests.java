/** Each sentence of the document, with its edges and with what is refused. */
public final class DocumentTests {
    public static void main(String[] args) throws Exception {
        Doc.read();
        TermEdges.all();
        ActEdges.all();
        QuestionEdges.all();
        if (!Doc.end()) {
            System.exit(1);
        }
    }
}
