/** For each sentence of the document that names a boundary case a test of its own, named by its promise and its words. */
public final class BoundaryTests {
    public static void main(String[] args) {
        BoundaryTold.run();
        BoundaryLaws.run();
        BoundaryWalks.run();
        BoundaryDays.run();
        Due.close();
    }
}
