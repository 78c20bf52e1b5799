import java.util.ArrayList;
import java.util.Arrays;
import java.util.List;

/**
 * A desk with known ordinals in all slots and records, for one call whose whole outcome is due:
 * its answer or its exception, and all that it changes; what it does not name stays as it was.
 */
final class Stand {
    static final String SLOT = "IndexOutOfBoundsException";
    static final String ARGUMENT = "IllegalArgumentException";
    static final String ROOM = "IllegalStateException";
    static final int SLOTS = 8;

    private static String sentence = "";

    private final Bench bench = new Bench();
    private final List<String> slots = new ArrayList<>();
    private final List<String> records = new ArrayList<>(List.of("w+7", "3"));

    private Stand(String... texts) {
        slots.addAll(Arrays.asList(texts));
        for (int slot = texts.length; slot < SLOTS; slot++) {
            slots.add(Integer.toString(100 + slot));
        }
    }

    /** What the document says, in its own words; a check behind it that fails is told with it. */
    static void sentence(String words) {
        sentence = words;
    }

    /** These ordinals in the slots from 0 on; the others get numbers of which no check asks. */
    static Stand with(String... texts) {
        return new Stand(texts);
    }

    static Stand withAll(String text) {
        return new Stand(times(SLOTS, text));
    }

    static String[] times(int count, String text) {
        String[] texts = new String[count];
        Arrays.fill(texts, text);
        return texts;
    }

    Stand recorded(String... texts) {
        records.clear();
        records.addAll(Arrays.asList(texts));
        return this;
    }

    /** The call makes this slot that ordinal, or throws this exception. */
    void gives(int slot, String want, String name, int... arguments) {
        if (want.endsWith("Exception")) {
            refuses(want, name, arguments);
        } else {
            makes(slot, want, name, arguments);
        }
    }

    /** The call makes this slot that ordinal and answers its size, if it answers at all. */
    void makes(int slot, String ordinal, String name, int... arguments) {
        prepare();
        dueAnswer(Tree.of(ordinal).size(), name, arguments);
        slots.set(slot, ordinal);
        dueState(Calls.text(name, arguments));
    }

    /** The call answers this, and changes nothing. */
    void answers(int want, String name, int... arguments) {
        prepare();
        dueAnswer(want, name, arguments);
        dueState(Calls.text(name, arguments));
    }

    /** The call answers this, if it answers at all, and these are the records behind it. */
    void records(int want, List<String> after, String name, int... arguments) {
        prepare();
        dueAnswer(want, name, arguments);
        recorded(after.toArray(new String[0]));
        dueState(Calls.text(name, arguments));
    }

    /** The call throws this, and changes nothing: not even what later calls do. */
    void refuses(String exception, String name, int... arguments) {
        prepare();
        String call = Calls.text(name, arguments);
        due(call, "exception", Calls.outcome(bench.desk, name, arguments), exception);
        dueState(call);
        due(call, "later calls", probe(bench.desk), probe(new OrdinalDesk()));
    }

    private void prepare() {
        for (String text : records) {
            bench.load(0, text);
            bench.desk.record(0);
        }
        for (int slot = 0; slot < SLOTS; slot++) {
            bench.load(slot, slots.get(slot));
        }
    }

    private void dueAnswer(int want, String name, int... arguments) {
        boolean answers = Calls.method(OrdinalDesk.class, name).getReturnType() != void.class;
        due(Calls.text(name, arguments), "answer", Calls.outcome(bench.desk, name, arguments),
                answers ? Integer.toString(want) : "null");
    }

    private void dueState(String call) {
        for (int slot = 0; slot < SLOTS; slot++) {
            due(call, "slot " + slot, bench.read(slot).toString(), normal(slots.get(slot)));
        }
        for (int i = 0; i < records.size(); i++) {
            due(call, "recall of " + i, Calls.outcome(bench.desk, "recall", i, 0), "null");
            due(call, "record " + i, bench.read(0).toString(), normal(records.get(i)));
        }
        due(call, "number of records", bench.desk.wipe(), records.size());
        int used = bench.calls + 2 * records.size() + 2;
        due(call, "calls of the test itself within the bound", used <= Bench.MOST_CALLS, true);
    }

    private static String normal(String text) {
        return Tree.of(text).toString();
    }

    /** The answers of calls that set all that they use. */
    private static String probe(OrdinalDesk desk) {
        StringBuilder answers = new StringBuilder();
        // In base 2 and 3: numbers, small ordinals and larger ones, so that each way is gone.
        int[] first = {2, 12, 14, 5, 3};
        int[] second = {14, 5, 3, 3, 7};
        for (int i = 0; i < first.length; i++) {
            desk.start(first[i], 3, 0);
            desk.start(second[i], 2, 1);
            for (int kind = 0; kind < 8; kind++) {
                answers.append(Calls.outcome(desk, "op", kind, 0, 1, 2)).append(' ');
                answers.append(desk.value(2, 2)).append(' ');
            }
        }
        desk.start(12, 2, 3);
        answers.append(desk.member(3, 2, 4)).append(' ').append(desk.step(3, 2, 5)).append(' ');
        answers.append(desk.chop(3, 0, 1, 6)).append(' ').append(desk.fast(4, 1, 2000)).append(' ');
        answers.append(desk.record(6)).append(' ').append(desk.rise()).append(' ');
        return answers.append(desk.wipe()).toString();
    }

    private static void due(String call, String what, Object got, Object want) {
        due(call + ": " + what, got, want);
    }

    static void due(String what, Object got, Object want) {
        Bench.due("\"" + sentence + "\" " + what, got, want);
    }
}
