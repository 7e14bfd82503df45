import java.util.Arrays;
import java.util.HashSet;
import java.util.Set;
import java.util.function.ToLongFunction;

/** One test for each sentence that names a boundary case, by its promise and by the document's own words. */
final class Edges {
    static final int NONE = -1000000, BAD = -1000001, STATE = -1000002, FULL = -1000003;
    static final int NULL = -1000011, PLACE = -1000012, KIND = -1000013, SIZE = -1000014, STORE = -1000015;
    static final int LOW = Integer.MIN_VALUE, HIGH = Integer.MAX_VALUE;

    /** All sleep behind three minutes; a lorry of 3 wakes child 0, who cries, and child 1, who lies. */
    static final String THREE = "k1,3;p1,2,6;t2,1,3;l3,4,2;";
    /** Sleeps behind nine minutes, five with a hand: so rows of zeros fit till then. */
    static final String WAKEFUL = "k1,2;p9,0,0;";
    /** All sleep behind a minute; nobody is heard. */
    static final String SEVEN = "k3,2;" + "p1,0,0;".repeat(7);
    /** Child 0 wakes child 1, he child 6, he child 5, he child 0, a minute each, and so on without an end. */
    static final String RING = "k0,1;p1,3,9;p1,6,9;d1,9,0;d1,9,0;d1,9,0;p1,6,9;p1,3,9;";

    interface Call {
        long with(int number);
    }

    private final Due due = new Due("EdgesTest");
    private final Doc doc;
    private final Set<Integer> promises = new HashSet<>();
    private String edge;
    private int looks = 1;

    Edges(Doc doc) {
        this.doc = doc;
    }

    /** The document's words, then: what is looked at from here on belongs to them. */
    void edge(int promise, String words) {
        endEdge();
        edge = "promise " + promise + ", \"" + words + "\"";
        looks = 0;
        promises.add(promise);
        if (doc != null) {
            due.holds(edge + " stands in the document", doc.quotes(promise, words));
        }
    }

    private void endEdge() {
        due.holds(edge + " is looked at", looks > 0);
    }

    void is(String call, long got, long want) {
        looks++;
        due.is(edge + ": " + call, got, want);
    }

    void same(String call, String got, String want) {
        looks++;
        due.holds(edge + ": " + call + " left all as it was\n  " + want + "\n  " + got, got.equals(want));
    }

    /** Both ends are taken, what is beyond them is BAD, however far. */
    void range(String name, int least, int most, Call call) {
        for (int number : new int[] {least, most}) {
            looks++;
            due.holds(edge + ": " + name + " " + number + " is none that is BAD", call.with(number) != BAD);
        }
        for (int number : new int[] {least - 1, most + 1, LOW, HIGH}) {
            is(name + " " + number, call.with(number), BAD);
        }
    }

    /** Two objects with the same past: the call on one of them answers as due and leaves it like the other. */
    void refused(int promise, String name, long want, ToLongFunction<AsleepCots> call) {
        AsleepCots x = Look.rich();
        edge(promise, "What is refused, or found, changes nothing but status()");
        is(name, call.applyAsLong(x), want);
        same(name, Look.at(x), Look.at(Look.rich()));
    }

    void end(Set<String> withoutEdge) {
        endEdge();
        for (int promise = 1; promise <= 40; promise++) {
            due.holds("promise " + promise + " has an edge", promises.contains(promise));
        }
        if (doc == null) {
            System.out.println("EdgesTest: the document is not here; its words were not looked up");
        } else {
            for (String clause : doc.untouched()) {
                due.holds("a clause without an edge: " + clause, withoutEdge.contains(clause));
            }
        }
        due.end();
    }

    static AsleepCots none() {
        return new AsleepCots();
    }

    static AsleepCots room(String text) {
        return Due.roomOf(text);
    }

    static AsleepCots after(String text, int minutes) {
        AsleepCots x = Due.roomOf(text);
        x.minutes(minutes);
        return x;
    }

    /** Child 0 cries for three minutes more, child 1, a still one, lies, child 2 sleeps. */
    static AsleepCots threeWoken() {
        AsleepCots x = after(THREE, 3);
        x.lorry(3);
        return x;
    }

    /** Child 0 of the ring has just begun to cry; all others sleep. */
    static AsleepCots ring() {
        AsleepCots x = after(RING, 1);
        x.carry(6, 1);
        x.lorry(4);
        x.carry(6, 0);
        return x;
    }

    static AsleepCots told(AsleepCots x, int row, int lane, int... items) {
        x.row(row, lane, items.length);
        for (int i = 0; i < items.length; i++) {
            x.set(row, i, items[i]);
        }
        return x;
    }

    static int[] zeros(int n) {
        return Arrays.copyOf(new int[0], n);
    }
}
