/** Promises 21 to 25: mark, keep, back, count, trace; and the constants. */
public final class KindTest {
    public static void main(String[] args) {
        constants();
        marks();
        glances();
        badMarks();
        images();
        badImages();
        counts();
        Check.end();
    }

    private static void constants() {
        Check.due("BAD", BentYards.BAD, -1);
        Check.due("STATE", BentYards.STATE, -2);
        Check.due("FULL", BentYards.FULL, -3);
        Check.due("NONE", BentYards.NONE, -9);
        Check.due("NO", BentYards.NO, -1000000);
    }

    private static void marks() {
        BentYards x = Check.told("yard 5 5 2;house 4 4;house 4 3;house 4 2;chain 0 0 e;chain 0 0 s;chain 0 1 eeess;");
        int[] want = {5, 10, 5 - 3, 10 + 2, 5 - 3 + 5, 5 + 3};
        long[] trace = {1, 11, 101, 1011, 10101, 100001};
        long sum = 0;
        for (int kind = 0; kind < 6; kind++) {
            Check.due("mark of kind " + kind, x.mark(kind, 2), want[kind]);
            sum += trace[kind];
            Check.due("trace behind kind " + kind, x.trace(), sum);
        }
        Check.due("door 0", x.mark(3, 0), 2);
        Check.due("door 1", x.mark(3, 1), 3);
        x.raze(24);
        Check.due("rope with fewer houses", x.mark(5, 0), 1 + 2);
        Check.due("trace of all", x.trace(), sum + 2022 + 100001);
        x.way(0, 12, -1);
        x.chain(0, 3);
        Check.due("only mark comes to the trace", x.trace(), sum + 2022 + 100001);
    }

    private static void glances() {
        BentYards round = Check.told("chain 0 0 eswn;");
        Check.due("to itself", round.mark(4, 0), 4 - 1 + 0);
        BentYards none = Check.told("yard 3 1 1;chain 0 0 ee;");
        Check.due("no way", none.mark(4, 0), 2 - 2 + 0);
        Check.due("trace of a glance without a way", none.trace(), 10101);
        BentYards longer = Check.told("yard 3 2 1;chain 0 0 ee;");
        Check.due("a way around", longer.mark(4, 0), 2 - 2 + 4);
    }

    private static void badMarks() {
        BentYards x = Check.told("chain 0 0 e;");
        int[] bad = {-1, 6, Integer.MIN_VALUE, Integer.MAX_VALUE};
        for (int kind : bad) {
            Check.due("kind " + kind, x.mark(kind, 0), BentYards.NO);
        }
        int[] badChains = {-1, 1, 4, Integer.MIN_VALUE, Integer.MAX_VALUE};
        for (int k : badChains) {
            Check.due("mark of chain " + k, x.mark(0, k), BentYards.NO);
            Check.due("glance of chain " + k, x.mark(4, k), BentYards.NO);
        }
        Check.due("trace", x.trace(), 0);
    }

    private static void images() {
        BentYards x = Check.told("yard 4 4 2;house 3 3;chain 0 0 es;chain 0 3 n;");
        x.lot(5);
        Check.due("keep 0", x.keep(0), 2);
        x.close();
        x.build(2);
        x.lot(6);
        Check.due("keep 1", x.keep(1), 1);
        x.close();
        x.street(15 - 1, 41);
        x.raze(15);
        x.mark(0, 0);
        x.type('h', 1);
        Check.due("back 0", x.back(0), 2);
        Check.due("houses of 0", x.count(3), 1);
        Check.due("cell 2 of 0", x.cell(2), 0);
        Check.due("cell 15 of 0", x.cell(15), 1);
        Check.due("chain 0 of 0", x.chain(0, 1), 5);
        Check.row("its steps", i -> x.step(0, i), "es");
        Check.due("chain 1 of 0", x.chain(1, 0), 12);
        Check.due("the trace stays", x.trace(), 1);
        Check.due("the text stays", x.count(5), 1);
        Check.due("lot of 0", x.lot(9), 5);
        Check.due("back 1", x.back(1), 1);
        Check.due("cell 2 of 1", x.cell(2), 1);
        Check.due("lot of 1", x.lot(9), 6);
        Check.due("back 0 again", x.back(0), 2);
        Check.due("lot of 0 again", x.lot(9), 5);
        x.close();
        x.close();
        Check.due("keep over it", x.keep(0), 0);
        x.street(0, 2);
        Check.due("back to what was kept last", x.back(0), 0);
        Check.due("its lot", x.lot(0), 9);
        Check.due("an image of a whole chain is its own", x.back(1), 1);
        Check.due("its steps are not the street's", x.chain(0, 2), 2);
    }

    private static void badImages() {
        BentYards x = new BentYards();
        int[] bad = {-1, 2, Integer.MIN_VALUE, Integer.MAX_VALUE};
        for (int image : bad) {
            Check.due("keep " + image, x.keep(image), BentYards.BAD);
            Check.due("back " + image, x.back(image), BentYards.BAD);
        }
        x.keep(1);
        Check.due("back 0", x.back(0), BentYards.STATE);
        Check.due("back 1", x.back(1), 0);
    }

    private static void counts() {
        BentYards x = Check.told("yard 4 3 2;house 0 0;house 1 0;chain 3 0 s;");
        x.type(0, 7);
        int[] want = {4, 3, 2, 2, 1, 7};
        for (int what = 0; what < 6; what++) {
            Check.due("count " + what, x.count(what), want[what]);
        }
        int[] bad = {-1, 6, Integer.MIN_VALUE, Integer.MAX_VALUE};
        for (int what : bad) {
            Check.due("count " + what, x.count(what), BentYards.BAD);
        }
    }
}
