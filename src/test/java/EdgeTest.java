/** Each sentence of the document with a test of its own, above all those that name a boundary case. */
final class EdgeTest {
    private EdgeTest() {
    }

    public static void main(String[] args) {
        TextEdges.run();
        FactEdges.run();
        SpanEdges.run();
        ActEdges.run();
        Sentence.close();
        Check.close("EdgeTest");
    }
}
