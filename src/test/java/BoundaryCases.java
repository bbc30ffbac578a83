/** Every boundary case that the document names, promise by promise and sentence by sentence. */
public final class BoundaryCases {
    private BoundaryCases() {
    }

    public static void main(String[] args) throws Exception {
        Edge.open();
        EdgesOfTape.all();
        EdgesOfHouses.all();
        EdgesOfLaws.all();
        EdgesOfPlans.all();
        EdgesOfWeeks.all();
        EdgesOfTrade.all();
        EdgesOfWeaving.all();
        EdgesOfDebts.all();
        EdgesOfProofs.all();
        Edge.finish();
    }
}
