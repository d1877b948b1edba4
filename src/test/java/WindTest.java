/** Promises 13 to 16: lines, hedges, gusts, lot. */
public final class WindTest {
    public static void main(String[] args) {
        lines();
        longest();
        longestOfSeveral();
        longestOfFewerLines();
        harmByLimit();
        noLines();
        hedges();
        hedgesInOrder();
        hedgesAtTheEnds();
        gusts();
        gustsWithoutHarm();
        lotWraps();
        lot();
        Check.end();
    }

    private static void lines() {
        BentYards x = Check.told("yard 4 3 1;house 1 0;chain 0 2 e;");
        // rows: 0; 2 3; 4 5 6 7; 10 11; columns: 0 4; 5; 2 6 10; 3 7 11
        Check.due("how many", x.lines(0), 8);
        Check.due("harm", x.lines(1), 0 + 1 + 3 + 1 + 1 + 0 + 2 + 2);
        Check.due("cells of the longest", x.lines(2), 4);
        Check.due("its first", x.lines(3), 4);
        Check.due("in a row", x.lines(4), 0);
        BentYards two = Check.told("yard 4 3 2;house 1 0;chain 0 2 e;");
        Check.due("how many by 2", two.lines(0), 8);
        Check.due("harm by 2", two.lines(1), 2 + 1 + 1);
        int[] bad = {-1, 5, Integer.MIN_VALUE, Integer.MAX_VALUE};
        for (int what : bad) {
            Check.due("lines " + what, x.lines(what), BentYards.BAD);
        }
        BentYards board = new BentYards();
        for (int c = 1; c < 25; c += 2) {
            board.build(c);
        }
        Check.due("every other cell", board.lines(0), 26);
        Check.due("harm of every other cell", board.lines(1), 0);
    }

    private static void longest() {
        BentYards x = new BentYards();
        Check.due("of several the first", x.lines(3), 0);
        Check.due("of several one in a row", x.lines(4), 0);
        x.build(2);
        Check.due("the next row", x.lines(3), 5);
        BentYards column = Check.told("yard 2 5 1;");
        Check.due("in a column", column.lines(4), 1);
        Check.due("five cells", column.lines(2), 5);
        Check.due("from the top", column.lines(3), 0);
        column.build(0);
        Check.due("the other column", column.lines(3), 1);
        BentYards second = Check.told("yard 4 1 1;house 1 0;");
        Check.due("the second line is the longest", second.lines(3), 2);
        BentYards one = Check.told("yard 1 1 1;");
        Check.due("one cell is a line in its row and in its column", one.lines(0), 2);
        Check.due("of one cell", one.lines(2), 1);
        Check.due("in a row, as it's the first", one.lines(4), 0);
    }

    /** "the LINE with the most CELLS, of several the first by that order": rows, then columns. */
    private static void longestOfSeveral() {
        BentYards x = Check.told("yard 3 5 1;house 0 2;");
        Check.due("the second column", x.lines(3), 1);
        Check.due("the second column, cells", x.lines(2), 5);
        Check.due("the second column is a column", x.lines(4), 1);
        x.build(7);
        Check.due("the last column", x.lines(3), 2);
        Check.due("the last column is a column", x.lines(4), 1);
        x.build(8);
        Check.due("a row as long as others", x.lines(3), 0);
        Check.due("a row as long as others is a row", x.lines(4), 0);
        // a plus: the row in the midst, as long as the column in the midst
        BentYards plus = Check.told("yard 3 3 1;house 0 0;house 2 0;house 0 2;house 2 2;");
        Check.due("of a row and a column the row", plus.lines(4), 0);
        Check.due("of a row and a column the row's first", plus.lines(3), 3);
        BentYards parts = Check.told("yard 5 1 1;house 2 0;");
        Check.due("of equal parts of a row the first", parts.lines(3), 0);
        parts.build(0);
        Check.due("the longer part", parts.lines(3), 3);
        BentYards low = Check.told("yard 2 4 1;house 0 1;");
        Check.due("in a column behind a shorter one", low.lines(3), 1);
        BentYards below = Check.told("yard 2 5 1;house 0 1;house 1 0;house 1 4;");
        Check.due("a column's line that begins below", below.lines(3), 4);
        Check.due("its cells", below.lines(2), 3);
    }

    /** The lines are those of now: of ten lines of five cells nothing is left when there are two of one. */
    private static void longestOfFewerLines() {
        BentYards x = new BentYards();
        Check.due("five cells of ten lines", x.lines(2), 5);
        Check.due("harm of ten lines", x.lines(1), 40);
        Check.tell(x, "yard 1 1 1;");
        int[] want = {2, 0, 1, 0, 0};
        for (int what = 0; what < want.length; what++) {
            Check.due("of two lines then, " + what, x.lines(what), want[what]);
        }
        Check.due("no hedges then", x.hedges(-1), 0);
        x.build(0);
        for (int what = 2; what <= 4; what++) {
            Check.due("of no lines then, " + what, x.lines(what), BentYards.NONE);
        }
        BentYards y = new BentYards();
        y.lines(0);
        for (int c = 5; c < 25; c++) {
            y.build(c);
        }
        y.build(2);
        // 0 1 and 3 4 in the row, then four columns of one cell
        int[] fewer = {6, 2, 2, 0, 0};
        for (int what = 0; what < fewer.length; what++) {
            Check.due("of six lines then, " + what, y.lines(what), fewer[what]);
        }
    }

    /** "how many CELLS it has more than LIMIT (0 at least)", "(a CELL alone, too)". */
    private static void harmByLimit() {
        for (int limit = 1; limit <= 3; limit++) {
            for (int n = 1; n <= 5; n++) {
                BentYards x = Check.told("yard " + n + " 1 " + limit + ";");
                Check.due("lines of a row of " + n, x.lines(0), 1 + n);
                Check.due("harm of a row of " + n + " by " + limit, x.lines(1), n > limit ? n - limit : 0);
                BentYards y = Check.told("yard 1 " + n + " " + limit + ";");
                Check.due("harm of a column of " + n + " by " + limit, y.lines(1), n > limit ? n - limit : 0);
                BentYards z = Check.told("yard " + n + " " + n + " " + limit + ";");
                Check.due("harm of " + n + " by " + n + ", " + limit, z.lines(1), n > limit ? 2 * n * (n - limit) : 0);
            }
        }
    }

    private static void noLines() {
        BentYards x = Check.told("yard 2 1 1;chain 0 0 e;");
        Check.due("no lines", x.lines(0), 0);
        Check.due("no harm", x.lines(1), 0);
        for (int what = 2; what <= 4; what++) {
            Check.due("no longest " + what, x.lines(what), BentYards.NONE);
        }
        Check.due("no hedges", x.hedges(-1), 0);
        Check.due("no first hedge", x.hedges(0), -5);
        x.lot(77);
        Check.due("no gusts", x.gusts(99), 0);
        Check.due("the lot stays", x.lot(0), 77);
    }

    private static void hedges() {
        BentYards x = Check.told("yard 5 1 1;");
        Check.due("of five in a row", x.hedges(-1), 2);
        Check.due("the first", x.hedges(0), 1);
        Check.due("the second", x.hedges(1), 3);
        Check.due("no third", x.hedges(2), -5);
        BentYards three = Check.told("yard 5 1 3;");
        Check.due("of five by 3", three.hedges(-1), 1);
        Check.due("of several the first", three.hedges(0), 1);
        BentYards all = Check.told("yard 3 3 2;");
        Check.due("three rows, three columns", all.hedges(-1), 3);
        // each row and each column one: 0, 4, 8 is the first
        Check.due("hedge 0", all.hedges(0), 0);
        Check.due("hedge 1", all.hedges(1), 4);
        Check.due("hedge 2", all.hedges(2), 8);
        BentYards much = Check.told("yard 3 3 1;");
        for (int i = -1; i <= 2; i++) {
            Check.due("four are wanted, " + i, much.hedges(i), BentYards.NONE);
        }
        Check.due("i -2", much.hedges(-2), BentYards.BAD);
        Check.due("i 3", much.hedges(3), BentYards.BAD);
        Check.due("i most", much.hedges(Integer.MAX_VALUE), BentYards.BAD);
        Check.due("nothing becomes a hedge", all.lines(1), 6);
    }

    private static void hedgesInOrder() {
        BentYards x = Check.told("yard 2 2 1;");
        Check.due("2 by 2", x.hedges(-1), 2);
        Check.due("2 by 2, the first", x.hedges(0), 0);
        Check.due("2 by 2, the second", x.hedges(1), 3);
        // a house and a chain are no cells for hedges: 0 2 3 4 are left of the row, 0 alone
        BentYards y = Check.told("yard 5 1 1;house 1 0;");
        Check.due("behind a house", y.hedges(-1), 1);
        Check.due("behind a house, where", y.hedges(0), 3);
        BentYards z = Check.told("yard 5 1 1;chain 0 0 e;");
        Check.due("behind a chain, where", z.hedges(0), 3);
        Check.due("no harm at all", Check.told("yard 3 3 3;").hedges(-1), 0);
        // of 2 by 3 cells every other one: 0, 3, 4 or 1, 2, 5
        BentYards high = Check.told("yard 2 3 1;");
        int[] want = {0, 3, 4};
        for (int i = 0; i < 3; i++) {
            Check.due("2 by 3, hedge " + i, high.hedges(i), want[i]);
        }
        Check.due("2 by 3, how many", high.hedges(-1), 3);
        BentYards twice = Check.told("yard 5 1 1;");
        twice.hedges(-1);
        twice.build(2);
        Check.due("looked at anew", twice.hedges(0), 0);
        Check.due("looked at anew, the second", twice.hedges(1), 3);
        BentYards column = Check.told("yard 1 5 3;");
        Check.due("in a column", column.hedges(-1), 1);
        Check.due("in a column, where", column.hedges(0), 1);
    }

    /** "the fewest OPEN CELLS (0 .. 3)", "NONE: 3 are too few": each number, and one more. */
    private static void hedgesAtTheEnds() {
        // rows of 2 open cells, a row of houses between them: each wants one hedge
        String[] pairs = {"house 0 1;house 1 1;", "house 0 3;house 1 3;"};
        BentYards none = Check.told("yard 1 1 1;");
        Check.due("0 hedges", none.hedges(-1), 0);
        for (int i = 0; i <= 2; i++) {
            Check.due("0 hedges, " + i, none.hedges(i), -5);
        }
        BentYards one = Check.told("yard 2 1 1;");
        Check.due("1 hedge", one.hedges(-1), 1);
        Check.due("1 hedge, where", one.hedges(0), 0);
        Check.due("1 hedge, no second", one.hedges(1), -5);
        Check.due("1 hedge, no third", one.hedges(2), -5);
        BentYards two = Check.told("yard 2 3 1;" + pairs[0]);
        Check.due("2 hedges", two.hedges(-1), 2);
        Check.due("2 hedges, the second", two.hedges(1), 4);
        Check.due("2 hedges, no third", two.hedges(2), -5);
        BentYards three = Check.told("yard 2 5 1;" + pairs[0] + pairs[1]);
        int[] want = {3, 0, 4, 8};
        for (int i = -1; i <= 2; i++) {
            Check.due("3 hedges, " + i, three.hedges(i), want[i + 1]);
        }
        // four pairs of cells that do not touch: one more than 3
        BentYards four = Check.told("yard 5 3 1;house 2 0;house 2 2;house 0 1;house 1 1;house 2 1;house 3 1;house 4 1;");
        for (int i = -1; i <= 2; i++) {
            Check.due("4 hedges are wanted, " + i, four.hedges(i), BentYards.NONE);
        }
        Check.due("BAD is ahead of NONE", four.hedges(3), BentYards.BAD);
        Check.due("BAD is ahead of NONE below", four.hedges(-2), BentYards.BAD);
        four.build(0);
        Check.due("3 are enough then", four.hedges(-1), 3);
        int[] left = {3, 10, 13};
        for (int i = 0; i <= 2; i++) {
            Check.due("3 are enough then, " + i, four.hedges(i), left[i]);
        }
        // hedges go up to the last cell of the yard
        BentYards last = new BentYards();
        for (int c = 0; c < 23; c++) {
            last.build(c);
        }
        Check.due("the last two cells", last.hedges(0), 23);
        last.raze(19);
        Check.due("a corner of three", last.hedges(-1), 1);
        Check.due("a corner of three, its last cell", last.hedges(0), 24);
    }

    private static void gusts() {
        BentYards x = Check.told("yard 3 2 1;");
        int[] harms = {2, 2, 1, 1, 1};
        int lot = 1;
        int sum = 0;
        for (int i = 0; i < 99; i++) {
            lot = lot * 1103515245 + 12345;
            sum += harms[(lot >>> 16) % 5];
            if (i == 0) {
                Check.due("one gust", x.gusts(1), sum);
                x.lot(1);
            }
        }
        Check.due("99 gusts", x.gusts(99), sum);
        Check.due("the lot went on", x.lot(-1), lot);
        // a lot below 0: its upper 16 bits are still no number below 0
        int below = 1103515245 * -1 + 12345;
        Check.due("by a lot below 0", x.gusts(1), harms[(below >>> 16) % 5]);
        int[] bad = {0, -1, 100, Integer.MIN_VALUE, Integer.MAX_VALUE};
        for (int n : bad) {
            Check.due("gusts " + n, x.gusts(n), BentYards.BAD);
        }
        Check.due("the lot went on by one alone", x.lot(0), below);
    }

    private static void lot() {
        BentYards x = new BentYards();
        Check.due("at first", x.lot(Integer.MIN_VALUE), 1);
        Check.due("the least", x.lot(Integer.MAX_VALUE), Integer.MIN_VALUE);
        Check.due("the most", x.lot(0), Integer.MAX_VALUE);
        Check.due("zero", x.lot(1), 0);
    }

    /** "(no LINES: 0, THE LOT stays)": with lines that have no harm it goes on. */
    private static void gustsWithoutHarm() {
        BentYards x = Check.told("yard 3 3 3;");
        Check.due("no harm", x.gusts(1), 0);
        Check.due("the lot went on", x.lot(1), 1103527590);
        Check.due("no harm by 99", x.gusts(99), 0);
        Check.due("the lot went on by 99", x.lot(0), 1447624116);
        BentYards shut = Check.told("yard 1 1 1;house 0 0;");
        Check.due("no lines", shut.gusts(1), 0);
        Check.due("the lot stays", shut.lot(5), 1);
        Check.due("BAD without lines", shut.gusts(0), BentYards.BAD);
        Check.due("BAD without lines, too many", shut.gusts(100), BentYards.BAD);
        Check.due("the lot stays again", shut.lot(0), 5);
        shut.raze(0);
        Check.due("one cell, no harm", shut.gusts(1), 0);
        Check.due("two lines, so the lot goes on", shut.lot(0), 12345);
    }

    /** "times 1103515245 and 12345, wrapped; DRAW: its upper 16 bits, left over by how many LINES". */
    private static void lotWraps() {
        int[] from = {1, 0, -1, Integer.MAX_VALUE, Integer.MIN_VALUE, 77};
        int[] next = {1103527590, 12345, -1103502900, 1043980748, -2147471303, -928659710};
        int[] upper = {16838, 0, 48697, 15929, 32768, 51365};
        int[] third = {662824084, -1492899873, 646343466, -1501140182, 654583775, 1289087568};
        // two lines of two cells in the row, then four columns of one cell
        BentYards x = Check.told("yard 5 1 1;house 2 0;");
        int[] harms = {1, 1, 0, 0, 0, 0};
        Check.due("how many lines", x.lines(0), harms.length);
        for (int i = 0; i < from.length; i++) {
            x.lot(from[i]);
            Check.due("a gust by " + from[i], x.gusts(1), harms[upper[i] % harms.length]);
            Check.due("the lot behind " + from[i], x.lot(from[i]), next[i]);
            x.gusts(3);
            Check.due("the lot thrice behind " + from[i], x.lot(0), third[i]);
        }
    }
}
