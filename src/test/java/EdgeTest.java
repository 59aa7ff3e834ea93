/** Each sentence of the document that names a boundary, at its edge and on either side of it. */
public final class EdgeTest {
    public static void main(String[] args) {
        Edge e = new Edge();
        EdgeAnswers.all(e);
        EdgeText.all(e);
        EdgeThings.all(e);
        EdgeHours.all(e);
        EdgeBest.all(e);
        EdgeOdds.all(e);
        EdgeMoods.all(e);
        EdgeSheets.all(e);
        e.close();
    }
}
