/**
 * Every sentence of the document that names a boundary case, each with a test of its own that names
 * the promise (or the term) and the sentence.
 */
public final class EdgesTest {
    public static void main(String[] args) throws Exception {
        Document.open();
        WhatItIsEdges.all();
        WindsEdges.all();
        PassageEdges.all();
        HoldEdges.all();
        HarbourEdges.all();
        ContractEdges.all();
        DueEdges.all();
        VoyageEdges.all();
        StatusEdges.all();
        Document.everyWordIsNamed();
        Check.finish();
    }
}
