/**
 * Each sentence of the document that names an edge, with a test of its own. A test quotes its sentence first;
 * the quotes are looked for in ../shared/DOC.md, and what the document says and no test quotes is told.
 */
public final class SentencesTest {
    static final Check CHECK = new Check();

    public static void main(String[] args) {
        CallsSentences.run();
        TermsOfPatterns.run();
        TermsOfPositions.run();
        TermsOfFaults.run();
        TermsOfTexts.run();
        TermsOfAutomata.run();
        TermsOfExceptions.run();
        Promises01To04.run();
        Promises05To09.run();
        Promises10To14.run();
        Promises15To18.run();
        Promises19To21.run();
        CHECK.saysNothingElse();
        CHECK.end();
    }
}
