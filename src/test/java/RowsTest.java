import java.util.ArrayList;
import java.util.List;
import java.util.Random;

/**
 * Promises 10 to 12 as their sentences say them: all rows of steps are written down, those that lead out, onto
 * a house or are straight struck off, and way, ways and mend compared with what is left.
 */
public final class RowsTest {
    private static final int LONGEST = 7;
    private static final String LETTERS = "nesw";

    private final int wide;
    private final int high;
    private final int limit;
    private final boolean[] isHouse;
    private final String text;
    /** Of a row's length the rows that stand, in their order, each with its last cell. */
    private final List<List<String>> rows = new ArrayList<>();
    private final List<List<Integer>> ends = new ArrayList<>();

    private RowsTest(Random random) {
        wide = 1 + random.nextInt(5);
        high = 1 + random.nextInt(5);
        limit = 1 + random.nextInt(3);
        isHouse = new boolean[wide * high];
        StringBuilder told = new StringBuilder("yard " + wide + " " + high + " " + limit + ";");
        int share = random.nextInt(4);
        for (int c = 0; c < isHouse.length && told.length() <= 190; c++) {
            if (random.nextInt(10) < share) {
                isHouse[c] = true;
                told.append("house ").append(c % wide).append(' ').append(c / wide).append(';');
            }
        }
        text = told.toString();
    }

    public static void main(String[] args) {
        Random random = new Random(5);
        for (int i = 0; i < 60; i++) {
            RowsTest test = new RowsTest(random);
            for (int a = 0; a < test.wide * test.high; a++) {
                if (!test.isHouse[a]) {
                    test.writeRows(a);
                    test.compareWays(a);
                    test.compareMend(a, random);
                }
            }
        }
        Check.end();
    }

    private void writeRows(int a) {
        rows.clear();
        ends.clear();
        for (int n = 0; n <= LONGEST; n++) {
            rows.add(new ArrayList<>());
            ends.add(new ArrayList<>());
        }
        writeOn(a, "");
    }

    private void writeOn(int c, String row) {
        if (!isStraight(row)) {
            rows.get(row.length()).add(row);
            ends.get(row.length()).add(c);
        }
        for (int d = 0; d < 4 && row.length() < LONGEST; d++) {
            int there = beside(c, d);
            if (there >= 0) {
                writeOn(there, row + LETTERS.charAt(d));
            }
        }
    }

    private int beside(int c, int d) {
        int px = c % wide + (d == 1 ? 1 : d == 3 ? -1 : 0);
        int py = c / wide + (d == 2 ? 1 : d == 0 ? -1 : 0);
        boolean isIn = px >= 0 && px < wide && py >= 0 && py < high;
        return isIn && !isHouse[py * wide + px] ? py * wide + px : -1;
    }

    private boolean isStraight(String row) {
        for (int i = 0; i + limit < row.length(); i++) {
            int same = 0;
            while (same <= limit && row.charAt(i + same) == row.charAt(i)) {
                same++;
            }
            if (same > limit) {
                return true;
            }
        }
        return false;
    }

    private void compareWays(int a) {
        for (int b = 0; b < wide * high; b++) {
            if (isHouse[b]) {
                continue;
            }
            // an object answers 512 calls: a new one for each pair of cells
            BentYards x = Check.told(text);
            String first = null;
            for (int n = 0; n <= LONGEST; n++) {
                long number = 0;
                for (int i = 0; i < rows.get(n).size(); i++) {
                    if (ends.get(n).get(i) == b) {
                        number++;
                        first = first == null ? rows.get(n).get(i) : first;
                    }
                }
                Check.due("ways(" + a + ", " + b + ", " + n + ")", x.ways(a, b, n), number);
            }
            compareWay(x, a, b, first);
        }
    }

    private static void compareWay(BentYards x, int a, int b, String first) {
        int steps = x.way(a, b, -1);
        if (first == null) {
            Check.due("way(" + a + ", " + b + ") is longer or none", steps > LONGEST || steps == -9 ? 1 : 0, 1);
            return;
        }
        Check.due("way(" + a + ", " + b + ", -1)", steps, first.length());
        Check.row("way(" + a + ", " + b + ", i)", i -> x.way(a, b, i), first);
    }

    private void compareMend(int a, Random random) {
        String told = "";
        int length = 1 + random.nextInt(LONGEST);
        int c = a;
        int last = random.nextInt(4);
        for (int tries = 0; tries < 40 && told.length() < length; tries++) {
            int d = random.nextInt(2) == 0 ? last : random.nextInt(4);
            if (beside(c, d) >= 0) {
                c = beside(c, d);
                told += LETTERS.charAt(d);
                last = d;
            }
        }
        if (!told.isEmpty()) {
            compareMend(a, c, told);
        }
    }

    /** A yard anew, as a street can't be straight; houses that its text has no room for are built. */
    private void compareMend(int a, int b, String told) {
        BentYards y = Check.told("yard " + wide + " " + high + " " + limit + ";chain " + a % wide + " " + a / wide
                + " " + told + ";");
        for (int c = 0; c < isHouse.length; c++) {
            if (isHouse[c]) {
                y.build(c);
            }
        }
        String best = null;
        int fewest = 99;
        List<String> all = rows.get(told.length());
        for (int i = 0; i < all.size(); i++) {
            int differ = differ(all.get(i), told);
            if (ends.get(told.length()).get(i) == b && differ < fewest) {
                fewest = differ;
                best = all.get(i);
            }
        }
        String call = "mend of " + told + " from " + a;
        Check.due(call, y.mend(0, -1), best == null ? BentYards.NONE : fewest);
        if (best == null) {
            Check.due(call + ", its steps", y.mend(0, 0), BentYards.NONE);
        } else {
            Check.row(call, i -> y.mend(0, i), best);
        }
    }

    private static int differ(String a, String b) {
        int n = 0;
        for (int i = 0; i < a.length(); i++) {
            n += a.charAt(i) == b.charAt(i) ? 0 : 1;
        }
        return n;
    }
}
