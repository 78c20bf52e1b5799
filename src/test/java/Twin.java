/** A desk and the model beside it: each call goes to both, and they must answer the same. */
final class Twin {
    private final Bench bench = new Bench();
    private final DeskModel model = new DeskModel();

    /** Makes the slot that ordinal in both; the desk's slots behind it may change, those before it do not. */
    void load(int slot, Tree tree) {
        bench.load(slot, tree);
        model.slots[slot] = tree;
    }

    void call(String where, String name, int... arguments) {
        bench.calls++;
        keepsBound(where);
        Bench.due(Calls.text(name, arguments) + " at " + where,
                Calls.outcome(bench.desk, name, arguments), Calls.outcome(model, name, arguments));
    }

    void sameSlot(String where, int slot) {
        Bench.due("slot " + slot + " behind " + where,
                bench.read(slot).toString(), model.slots[slot].toString());
        keepsBound(where);
    }

    private void keepsBound(String where) {
        Bench.due("calls of the test itself within the bound at " + where, bench.calls <= Bench.MOST_CALLS, true);
    }

    int lengthOfWriting(int slot) {
        return model.slots[slot].writing().size();
    }
}
