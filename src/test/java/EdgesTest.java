import java.io.IOException;

/** A test for each sentence of the document that names a boundary case; see Sentences. */
public final class EdgesTest {
    public static void main(String[] args) throws IOException {
        TermsMapEdges.tests();
        TermsKindsEdges.tests();
        TermsLinesEdges.tests();
        TermsBlocksEdges.tests();
        TermsColumnsEdges.tests();
        TermsBoxEdges.tests();
        TermsRoundsEdges.tests();
        TermsTextEdges.tests();
        TermsUndoEdges.tests();
        TermsExceptionsEdges.tests();
        promises();
        Sentences.end();
    }

    private static void promises() {
        Promise01Edges.tests();
        Promise02Edges.tests();
        Promise03Edges.tests();
        Promise04Edges.tests();
        Promise05Edges.tests();
        Promise06Edges.tests();
        Promise07Edges.tests();
        Promise08Edges.tests();
        Promise09Edges.tests();
        Promise10Edges.tests();
        Promise11Edges.tests();
        Promise12Edges.tests();
        Promise13Edges.tests();
        Promise14Edges.tests();
        Promise15Edges.tests();
        Promise16Edges.tests();
        Promise17Edges.tests();
        Promise18Edges.tests();
        Promise19Edges.tests();
        Promise20Edges.tests();
        Promise21Edges.tests();
        Promise22Edges.tests();
        Promise23Edges.tests();
        Promise24Edges.tests();
        Promise25Edges.tests();
        Promise26Edges.tests();
        Promise27Edges.tests();
    }
}
