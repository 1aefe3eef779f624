/** Each sentence of the document, in its order, by at least one test of its own. */
public final class SentencesTest {
    private SentencesTest() {
    }

    public static void main(String[] args) {
        Sentences doc = new Sentences();
        TermsOfPools.hold(doc);
        TermsOfSweeping.hold(doc);
        TermsOfLines.hold(doc);
        TermsOfBanks.hold(doc);
        TermsOfDays.hold(doc);
        TermsOfInterest.hold(doc);
        TermsOfRefusals.hold(doc);
        PromisesOfPools.hold(doc);
        PromisesOfDays.hold(doc);
        PromisesOfFlows.hold(doc);
        PromisesOfPositions.hold(doc);
        PromisesOfOutlook.hold(doc);
        doc.finish();
    }
}
