/** Each sentence of the document that names an edge, its promise's number beside it; and that no promise is without one. */
final class EdgesTest {
    public static void main(String[] args) {
        EdgesOfTexts.run();
        EdgesOfPeople.run();
        EdgesOfMonths.run();
        EdgesAhead.run();
        EdgesOfFalls.run();
        EdgesOfPairs.run();
        EdgesOfKeeps.run();
        Due.allPromises();
        Due.close("EdgesTest");
    }
}
