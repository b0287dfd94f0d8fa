/** Each sentence of the document that names a boundary case, as an edge of its own. */
final class EdgesTest {
    private EdgesTest() {
    }

    public static void main(String[] args) {
        Edges e = new Edges();
        EdgesOfTerms.all(e);
        EdgesOfLots.all(e);
        EdgesOfDays.all(e);
        EdgesOfStanding.all(e);
        EdgesOfTold.all(e);
        EdgesOfTexts.all(e);
        EdgesOfSheets.all(e);
        EdgesOfImages.all(e);
        for (int promise = 1; promise <= 43; promise++) {
            e.due.is("edges of promise " + promise, e.has(String.valueOf(promise)) ? 1 : 0, 1);
        }
        for (int terms = 1; terms <= 3; terms++) {
            e.due.is("edges of Terms " + terms, e.has("Terms " + terms) ? 1 : 0, 1);
        }
        e.due.end();
    }
}
