/** Promises 21 to 25: mark, keep, back, count, trace; and the constants. */
public final class KindTest {
    public static void main(String[] args) {
        constants();
        marks();
        glances();
        badMarks();
        marksOfEachKind();
        images();
        badImages();
        imagesOfNothing();
        imagesAreGone();
        counts();
        Check.end();
    }

    private static void constants() {
        Check.due("BAD", BentYards.BAD, -1);
        Check.due("STATE", BentYards.STATE, -2);
        Check.due("FULL", BentYards.FULL, -3);
        Check.due("NONE", BentYards.NONE, -9);
        Check.due("NO", BentYards.NO, -1000000);
    }

    private static void marks() {
        BentYards x = Check.told("yard 5 5 2;house 4 4;house 4 3;house 4 2;chain 0 0 e;chain 0 0 s;chain 0 1 eeess;");
        int[] want = {5, 10, 5 - 3, 10 + 2, 5 - 3 + 5, 5 + 3};
        long[] trace = {1, 11, 101, 1011, 10101, 100001};
        long sum = 0;
        for (int kind = 0; kind < 6; kind++) {
            Check.due("mark of kind " + kind, x.mark(kind, 2), want[kind]);
            sum += trace[kind];
            Check.due("trace behind kind " + kind, x.trace(), sum);
        }
        Check.due("door 0", x.mark(3, 0), 2);
        Check.due("door 1", x.mark(3, 1), 3);
        x.raze(24);
        Check.due("rope with fewer houses", x.mark(5, 0), 1 + 2);
        Check.due("trace of all", x.trace(), sum + 2022 + 100001);
        x.way(0, 12, -1);
        x.chain(0, 3);
        Check.due("only mark comes to the trace", x.trace(), sum + 2022 + 100001);
    }

    private static void glances() {
        BentYards round = Check.told("chain 0 0 eswn;");
        Check.due("to itself", round.mark(4, 0), 4 - 1 + 0);
        BentYards none = Check.told("yard 3 1 1;chain 0 0 ee;");
        Check.due("no way", none.mark(4, 0), 2 - 2 + 0);
        Check.due("trace of a glance without a way", none.trace(), 10101);
        BentYards longer = Check.told("yard 3 2 1;chain 0 0 ee;");
        Check.due("a way around", longer.mark(4, 0), 2 - 2 + 4);
    }

    private static void badMarks() {
        BentYards x = Check.told("chain 0 0 e;");
        int[] bad = {-1, 6, Integer.MIN_VALUE, Integer.MAX_VALUE};
        for (int kind : bad) {
            Check.due("kind " + kind, x.mark(kind, 0), BentYards.NO);
        }
        int[] badChains = {-1, 1, 4, Integer.MIN_VALUE, Integer.MAX_VALUE};
        for (int k : badChains) {
            Check.due("mark of chain " + k, x.mark(0, k), BentYards.NO);
            Check.due("glance of chain " + k, x.mark(4, k), BentYards.NO);
        }
        Check.due("trace", x.trace(), 0);
    }

    /** Each kind's bodies from it up to CHAIN, of 1 and of 12 steps; what is refused asks no body. */
    private static void marksOfEachKind() {
        BentYards x = Check.told("yard 5 5 3;chain 0 0 e;chain 0 0 eeeesssswwww;chain 0 4 en;chain 2 2 nnss;");
        int[][] want = {{1, 2, 0, 2, 1, 1}, {12, 24, 8, 25, 8 + 4 + 2, 12}, {2, 4, 1, 6, 1 + 2, 2}, {4, 8, 2, 11, 2, 4}};
        long[] trace = {1, 11, 101, 1011, 10101, 100001};
        long sum = 0;
        for (int k = 0; k < 4; k++) {
            for (int kind = 0; kind < 6; kind++) {
                Check.due("mark of kind " + kind + " of chain " + k, x.mark(kind, k), want[k][kind]);
                sum += trace[kind];
                Check.due("its trace", x.trace(), sum);
                Check.due("no such chain", x.mark(kind, 4), BentYards.NO);
                Check.due("no such chain below", x.mark(kind, -1), BentYards.NO);
                Check.due("the trace stays", x.trace(), sum);
            }
            Check.due("no such kind", x.mark(6, k), BentYards.NO);
            Check.due("no such kind below", x.mark(-1, k), BentYards.NO);
        }
        Check.due("the trace stays at last", x.trace(), sum);
        for (int i = 0; i < 300; i++) {
            x.mark(5, 0);
        }
        Check.due("the trace of many", x.trace(), sum + 300 * 100001);
    }

    private static void images() {
        BentYards x = Check.told("yard 4 4 2;house 3 3;chain 0 0 es;chain 0 3 n;");
        x.lot(5);
        Check.due("keep 0", x.keep(0), 2);
        x.close();
        x.build(2);
        x.lot(6);
        Check.due("keep 1", x.keep(1), 1);
        x.close();
        x.street(15 - 1, 41);
        x.raze(15);
        x.mark(0, 0);
        x.type('h', 1);
        Check.due("back 0", x.back(0), 2);
        Check.due("houses of 0", x.count(3), 1);
        Check.due("cell 2 of 0", x.cell(2), 0);
        Check.due("cell 15 of 0", x.cell(15), 1);
        Check.due("chain 0 of 0", x.chain(0, 1), 5);
        Check.row("its steps", i -> x.step(0, i), "es");
        Check.due("chain 1 of 0", x.chain(1, 0), 12);
        Check.due("the trace stays", x.trace(), 1);
        Check.due("the text stays", x.count(5), 1);
        Check.due("lot of 0", x.lot(9), 5);
        Check.due("back 1", x.back(1), 1);
        Check.due("cell 2 of 1", x.cell(2), 1);
        Check.due("lot of 1", x.lot(9), 6);
        Check.due("back 0 again", x.back(0), 2);
        Check.due("lot of 0 again", x.lot(9), 5);
        x.close();
        x.close();
        Check.due("keep over it", x.keep(0), 0);
        x.street(0, 2);
        Check.due("back to what was kept last", x.back(0), 0);
        Check.due("its lot", x.lot(0), 9);
        Check.due("an image of a whole chain is its own", x.back(1), 1);
        Check.due("its steps are not the street's", x.chain(0, 2), 2);
    }

    private static void badImages() {
        BentYards x = new BentYards();
        int[] bad = {-1, 2, Integer.MIN_VALUE, Integer.MAX_VALUE};
        for (int image : bad) {
            Check.due("keep " + image, x.keep(image), BentYards.BAD);
            Check.due("back " + image, x.back(image), BentYards.BAD);
        }
        x.keep(1);
        Check.due("back 0", x.back(0), BentYards.STATE);
        Check.due("back 1", x.back(1), 0);
    }

    /** An image of no houses and no chains is one, too; BAD stands ahead of STATE. */
    private static void imagesOfNothing() {
        BentYards x = new BentYards();
        Check.due("none was kept", x.back(0), BentYards.STATE);
        Check.due("no such image, none was kept", x.back(2), BentYards.BAD);
        Check.due("keep nothing", x.keep(0), 0);
        Check.due("the other one is none", x.back(1), BentYards.STATE);
        x.build(3);
        x.street(12, 1234);
        x.lot(4);
        Check.due("no such image", x.back(-1), BentYards.BAD);
        Check.due("none was kept there", x.back(1), BentYards.STATE);
        Check.due("houses stay by a refused back", x.count(3), 1);
        Check.due("chains stay by a refused back", x.count(4), 1);
        Check.due("back to nothing", x.back(0), 0);
        Check.due("no houses", x.count(3), 0);
        Check.due("no chains", x.count(4), 0);
        Check.due("no chain on a cell", x.cell(12), 0);
        Check.due("the lot of nothing", x.lot(4), 1);
        BentYards four = Check.told("chain 0 0 e;chain 0 0 s;chain 4 4 n;chain 4 4 w;");
        Check.due("keep four", four.keep(1), 4);
        for (int i = 0; i < 4; i++) {
            four.close();
        }
        Check.due("back to four", four.back(1), 4);
        Check.due("the fourth", four.chain(3, 1), 23);
        Check.due("full again", four.street(12, 1), BentYards.FULL);
    }

    /** "Read anew: all as told, IMAGES are gone; THE LOT, 1 at first, stays." A fault reads nothing. */
    private static void imagesAreGone() {
        BentYards x = Check.told("yard 3 3 2;house 1 1;chain 0 0 e;");
        x.lot(-6);
        x.keep(0);
        x.lot(-7);
        Check.type(x, "yard 3 3 2;house 1 1;chain 0 0 e");
        Check.due("a fault", x.yard(), -10 - 32);
        Check.due("the image stays by a fault", x.back(0), 1);
        Check.due("and its lot", x.lot(-7), -6);
        x.type(';', 1);
        Check.due("the same once more", x.yard(), 3);
        Check.due("image 0 is gone", x.back(0), BentYards.STATE);
        Check.due("image 1 is gone", x.back(1), BentYards.STATE);
        Check.due("the lot stays", x.lot(1), -7);
        x.keep(1);
        x.yard();
        Check.due("gone by an empty text", x.back(1), BentYards.STATE);
        Check.due("keep anew", x.keep(1), 0);
        Check.due("back anew", x.back(1), 0);
    }

    private static void counts() {
        BentYards x = Check.told("yard 4 3 2;house 0 0;house 1 0;chain 3 0 s;");
        x.type(0, 7);
        int[] want = {4, 3, 2, 2, 1, 7};
        for (int what = 0; what < 6; what++) {
            Check.due("count " + what, x.count(what), want[what]);
        }
        int[] bad = {-1, 6, Integer.MIN_VALUE, Integer.MAX_VALUE};
        for (int what : bad) {
            Check.due("count " + what, x.count(what), BentYards.BAD);
        }
    }
}
