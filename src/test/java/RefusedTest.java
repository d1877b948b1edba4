import java.util.ArrayList;
import java.util.List;
import java.util.function.ToLongFunction;

/** "Refused, and nothing changes, the first of these: BAD, STATE, FULL": every refusal, and all that stays. */
public final class RefusedTest {
    private static final int[] FAR = {-1000, Integer.MIN_VALUE, Integer.MAX_VALUE, 1 << 16};
    private static final String TYPED = "house 1 1;" + " ".repeat(188);

    private record Call(String name, long want, ToLongFunction<BentYards> asked) {
    }

    private final List<Call> calls = new ArrayList<>();

    public static void main(String[] args) {
        RefusedTest test = new RefusedTest();
        test.ofTheYard();
        test.ofWhatIsStraight();
        test.ofTheWind();
        test.ofHousesAndStreets();
        test.ofKindsAndImages();
        test.askEach();
        test.askAll();
        closeOfNone();
        faultOfEachText();
        Check.end();
    }

    /** 4 by 3, LIMIT 1, houses 0 and 11; chains 1 2 6, 4 8, 3 7, 9 10; 5 alone is open; 2 bytes are left. */
    private static BentYards yard() {
        BentYards x = Check.told("yard 4 3 1;house 0 0;house 3 2;chain 1 0 es;chain 0 1 s;chain 3 0 s;chain 1 2 e;");
        Check.type(x, TYPED);
        x.lot(31);
        x.mark(4, 0);
        Check.due("an image", x.keep(0), 4);
        return x;
    }

    /** All that calls can tell without changing it, but for the lot, which is put back. */
    private static String seen(BentYards x) {
        StringBuilder all = new StringBuilder();
        for (int what = 0; what < 6; what++) {
            all.append(x.count(what)).append(' ');
        }
        for (int c = 0; c < 25; c++) {
            all.append(x.cell(c)).append(' ');
        }
        for (int k = 0; k < 4; k++) {
            all.append(x.chain(k, 0)).append(' ').append(x.chain(k, 1)).append(':');
            for (int i = 0; i < 12; i++) {
                all.append(x.step(k, i)).append(' ');
            }
        }
        int lot = x.lot(0);
        x.lot(lot);
        return all.append(lot).append(' ').append(x.trace()).toString();
    }

    private void refused(String name, long want, ToLongFunction<BentYards> asked) {
        calls.add(new Call(name, want, asked));
    }

    private void bad(String name, int[] values, java.util.function.BiFunction<BentYards, Integer, Number> asked) {
        for (int v : values) {
            refused(name + " with " + v, BentYards.BAD, x -> asked.apply(x, v).longValue());
        }
        for (int v : FAR) {
            refused(name + " with " + v, BentYards.BAD, x -> asked.apply(x, v).longValue());
        }
    }

    private void ofTheYard() {
        refused("type n 0", BentYards.BAD, x -> x.type(' ', 0));
        refused("type n 9", BentYards.BAD, x -> x.type(' ', 9));
        for (int n : FAR) {
            refused("type n " + n, BentYards.BAD, x -> x.type(' ', n));
        }
        for (int n = 3; n <= 8; n++) {
            int bytes = n;
            refused("type " + n + " of 2", BentYards.FULL, x -> x.type('#', bytes));
        }
        bad("cell", new int[] {-1, 12, 24}, (x, v) -> x.cell(v));
        bad("chain k", new int[] {-1, 4}, (x, v) -> x.chain(v, 0));
        bad("chain what", new int[] {-1, 4}, (x, v) -> x.chain(0, v));
        bad("step k", new int[] {-1, 4}, (x, v) -> x.step(v, 0));
        refused("step i", BentYards.BAD, x -> x.step(0, -1));
        refused("step i least", BentYards.BAD, x -> x.step(0, Integer.MIN_VALUE));
        refused("step k ahead of i", BentYards.BAD, x -> x.step(4, 12));
    }

    private void ofWhatIsStraight() {
        bad("straight", new int[] {-1, 4}, (x, v) -> x.straight(v));
        bad("joint k", new int[] {-1, 4}, (x, v) -> x.joint(v, 0));
        bad("joint l", new int[] {-1, 4}, (x, v) -> x.joint(0, v));
        bad("way a", new int[] {-1, 12, 0, 11}, (x, v) -> x.way(v, 5, -1));
        bad("way b", new int[] {-1, 12, 0, 11}, (x, v) -> x.way(5, v, -1));
        bad("way a, its step", new int[] {-1, 12, 0, 11}, (x, v) -> x.way(v, 5, 0));
        refused("way i", BentYards.BAD, x -> x.way(5, 6, -2));
        refused("way i least", BentYards.BAD, x -> x.way(5, 6, Integer.MIN_VALUE));
        refused("way of a house to itself", BentYards.BAD, x -> x.way(0, 0, -1));
        bad("ways a", new int[] {-1, 12, 0, 11}, (x, v) -> x.ways(v, 5, 3));
        bad("ways b", new int[] {-1, 12, 0, 11}, (x, v) -> x.ways(5, v, 3));
        bad("ways n", new int[] {-1, 21}, (x, v) -> x.ways(5, 5, v));
        refused("ways of a house to itself", BentYards.BAD, x -> x.ways(11, 11, 0));
        bad("mend k", new int[] {-1, 4}, (x, v) -> x.mend(v, -1));
        refused("mend i", BentYards.BAD, x -> x.mend(0, -2));
        refused("mend i least", BentYards.BAD, x -> x.mend(0, Integer.MIN_VALUE));
    }

    private void ofTheWind() {
        bad("lines", new int[] {-1, 5}, (x, v) -> x.lines(v));
        bad("hedges", new int[] {-2, 3}, (x, v) -> x.hedges(v));
        bad("gusts", new int[] {0, -1, 100}, (x, v) -> x.gusts(v));
    }

    private void ofHousesAndStreets() {
        bad("build", new int[] {-1, 12, 24}, (x, v) -> x.build(v));
        bad("raze", new int[] {-1, 12, 24}, (x, v) -> x.raze(v));
        for (int c = 0; c < 12; c++) {
            int cell = c;
            if (c != 5) {
                refused("build on " + c, BentYards.STATE, x -> x.build(cell));
            }
            if (c != 0 && c != 11) {
                refused("raze on " + c, BentYards.STATE, x -> x.raze(cell));
            }
        }
        bad("street c", new int[] {-1, 12, 0, 11}, (x, v) -> x.street(v, 1));
        bad("street steps", new int[] {0, -1, 5, 6, 9, 10, 15, 51, 105, 1313131313}, (x, v) -> x.street(5, v));
        refused("street out", BentYards.BAD, x -> x.street(1, 1));
        refused("street onto a house", BentYards.BAD, x -> x.street(1, 4));
        refused("street straight, onto a house", BentYards.BAD, x -> x.street(8, 2222));
        refused("street straight", BentYards.STATE, x -> x.street(5, 22));
        refused("street with a joint ahead of a chain", BentYards.STATE, x -> x.street(8, 2));
        refused("street with a joint behind a chain", BentYards.STATE, x -> x.street(6, 3));
        refused("street of too many", BentYards.FULL, x -> x.street(5, 1));
    }

    private void ofKindsAndImages() {
        for (int v : new int[] {-1, 6, -1000, Integer.MIN_VALUE, Integer.MAX_VALUE}) {
            refused("mark kind " + v, BentYards.NO, x -> x.mark(v, 0));
        }
        for (int v : new int[] {-1, 4, -1000, Integer.MIN_VALUE, Integer.MAX_VALUE}) {
            refused("mark k " + v, BentYards.NO, x -> x.mark(4, v));
        }
        bad("keep", new int[] {-1, 2}, (x, v) -> x.keep(v));
        bad("back", new int[] {-1, 2}, (x, v) -> x.back(v));
        refused("back to none", BentYards.STATE, x -> x.back(1));
        bad("count", new int[] {-1, 6}, (x, v) -> x.count(v));
    }

    private static void same(String name, String got, String want) {
        Check.due("nothing changes by " + name + ": " + want + " became " + got, got.equals(want) ? 1 : 0, 1);
    }

    private void askEach() {
        for (Call call : calls) {
            BentYards x = yard();
            String before = seen(x);
            Check.due(call.name, call.asked.applyAsLong(x), call.want);
            same(call.name, seen(x), before);
            x.build(5);
            x.lot(7);
            Check.due("the image behind " + call.name, x.back(0), 4);
            same(call.name + ", of the image", seen(x), before);
            Check.due("no image 1 behind " + call.name, x.back(1), BentYards.STATE);
            Check.due("the text behind " + call.name, x.yard(), 1);
        }
    }

    private void askAll() {
        BentYards x = yard();
        String before = seen(x);
        for (Call call : calls) {
            Check.due(call.name + " behind others", call.asked.applyAsLong(x), call.want);
        }
        same("all of them", seen(x), before);
        Check.due("the two bytes that are left", x.type(0x2020, 2), 200);
    }

    private static void closeOfNone() {
        BentYards x = Check.told("yard 4 3 1;house 0 0;");
        Check.type(x, TYPED);
        String before = seen(x);
        Check.due("close", x.close(), BentYards.STATE);
        same("close", seen(x), before);
        Check.due("a street comes as the first", x.street(5, 1), 1);
    }

    /** "-10 less FAULT: nothing changes." A text that breaks off or breaks at each of its places. */
    private static void faultOfEachText() {
        String text = "yard 5 4 2;house 1 1;house 4 3;chain 0 0 eess;chain 3 3 n;";
        for (int i = 0; i < text.length(); i++) {
            BentYards x = Check.told("yard 4 3 1;house 0 0;house 3 2;chain 1 0 es;chain 0 1 s;");
            x.keep(0);
            x.mark(3, 1);
            x.lot(9);
            Check.type(x, text.substring(0, i) + "#" + text.substring(i));
            String before = seen(x);
            int answer = x.yard();
            boolean isFault = answer <= -10 && answer >= -10 - i;
            Check.due("a fault at " + i + " at most: " + answer, isFault ? 1 : 0, 1);
            same("a fault at " + i, seen(x), before);
            Check.due("the same fault again at " + i, x.yard(), answer);
            Check.due("the image stays by a fault at " + i, x.back(0), 2);
            Check.due("the text is as long by a fault at " + i, x.clear(), text.length() + 1);
        }
        Check.told(text);
    }
}
