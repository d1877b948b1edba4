/** Promises 5 to 9: cell, chain, step, straight, joint. */
public final class ChainTest {
    public static void main(String[] args) {
        cells();
        cellsOfChainsThatCross();
        chainsAndSteps();
        straightOnes();
        joints();
        jointsByLimit();
        noChains();
        Check.end();
    }

    private static void cells() {
        BentYards x = Check.told("yard 3 2 3;house 2 1;chain 0 0 ee;");
        int[] want = {2, 2, 2, 0, 0, 1};
        for (int c = 0; c < want.length; c++) {
            Check.due("cell " + c, x.cell(c), want[c]);
        }
        int[] bad = {-1, 6, 25, Integer.MIN_VALUE, Integer.MAX_VALUE};
        for (int c : bad) {
            Check.due("cell " + c, x.cell(c), BentYards.BAD);
        }
        x.close();
        Check.due("open again", x.cell(1), 0);
    }

    /** "over themselves and others, too": a cell stays a chain's until the last chain there goes. */
    private static void cellsOfChainsThatCross() {
        BentYards x = Check.told("chain 1 1 ewew;chain 1 0 ss;chain 2 1 n;chain 3 3 wenwse;");
        Check.due("crossed", x.cell(6), 2);
        Check.due("a round comes to its first cell", x.chain(3, 1), 18);
        Check.due("to and fro", x.chain(0, 1), 6);
        x.close();
        x.close();
        Check.due("one goes, one stays", x.cell(7), 2);
        Check.due("one alone had it", x.cell(2), 0);
        x.close();
        Check.due("the crossed one stays", x.cell(6), 2);
        Check.due("the other's end goes", x.cell(11), 0);
        x.close();
        Check.due("none is left", x.cell(6), 0);
    }

    private static void chainsAndSteps() {
        BentYards x = Check.told("yard 5 4 1;chain 1 1 sseennnwwwsn;chain 4 3 n;");
        // 1 1, s 1 2, s 1 3, e 2 3, e 3 3, n 3 2, n 3 1, n 3 0, w 2 0, w 1 0, w 0 0, s 0 1, n 0 0
        int[][] want = {{6, 0, 12, 3}, {19, 14, 1, 1}};
        for (int k = 0; k < 2; k++) {
            for (int what = 0; what < 4; what++) {
                Check.due("chain " + k + " " + what, x.chain(k, what), want[k][what]);
            }
        }
        Check.row("step(0, i)", i -> x.step(0, i), "sseennnwwwsn");
        Check.row("step(1, i)", i -> x.step(1, i), "n");
        Check.due("chain what -1", x.chain(0, -1), BentYards.BAD);
        Check.due("chain what 4", x.chain(0, 4), BentYards.BAD);
        Check.due("chain -1", x.chain(-1, 0), BentYards.BAD);
        Check.due("chain 2", x.chain(2, 0), BentYards.BAD);
        Check.due("chain most", x.chain(Integer.MAX_VALUE, 0), BentYards.BAD);
        Check.due("step i -1", x.step(0, -1), BentYards.BAD);
        Check.due("step of no chain", x.step(2, 0), BentYards.BAD);
        Check.due("step of no chain, far", x.step(4, 99), BentYards.BAD);
        Check.due("step of chain -1", x.step(-1, 0), BentYards.BAD);
    }

    private static void straightOnes() {
        String chains = "chain 0 0 esesee;chain 0 4 nnee;chain 0 0 eee;chain 0 0 eeee;";
        int[][] want = {{5, 1, 1, 1}, {-9, -9, 2, 2}, {-9, -9, -9, 3}};
        for (int limit = 1; limit <= 3; limit++) {
            BentYards x = Check.told("yard 5 5 " + limit + ";" + chains);
            for (int k = 0; k < 4; k++) {
                Check.due("straight " + k + " by " + limit, x.straight(k), want[limit - 1][k]);
            }
            Check.due("straight -1", x.straight(-1), BentYards.BAD);
            Check.due("straight 4", x.straight(4), BentYards.BAD);
        }
        BentYards y = Check.told("yard 5 5 2;chain 0 0 eewwee;chain 4 0 wwsssw;");
        Check.due("turning about is not straight", y.straight(0), -9);
        Check.due("straight behind another run", y.straight(1), 4);
        Check.due("no chain 2", y.straight(2), BentYards.BAD);
    }

    private static void joints() {
        BentYards x = Check.told("yard 5 5 2;chain 0 0 see;chain 2 1 es;chain 2 1 ne;chain 2 1 sn;");
        // only the first one and the second one: the fourth one and the third one have n and n, 2 together
        int[][] want = {{0, 1, 0, 0}, {0, 0, 0, 0}, {0, 0, 0, 0}, {0, 0, 0, 0}};
        for (int k = 0; k < 4; k++) {
            for (int l = 0; l < 4; l++) {
                Check.due("joint " + k + " " + l, x.joint(k, l), want[k][l]);
            }
        }
        BentYards y = Check.told("yard 5 5 1;chain 1 1 ewnswe;chain 2 1 nwse;chain 1 1 ew;chain 4 4 n;");
        Check.due("of one with itself", y.joint(0, 0), 1);
        Check.due("of one with itself, another direction", y.joint(1, 1), 0);
        Check.due("the second begins where the first ends", y.joint(0, 2), 1);
        Check.due("the other way about", y.joint(2, 0), 0);
        Check.due("begins elsewhere", y.joint(3, 1), 0);
        Check.due("joint -1", y.joint(-1, 0), BentYards.BAD);
        Check.due("joint 0 -1", y.joint(0, -1), BentYards.BAD);
        Check.due("joint 4", y.joint(4, 0), BentYards.BAD);
        Check.due("joint 0 4", y.joint(0, 4), BentYards.BAD);
        BentYards z = Check.told("yard 5 5 3;chain 0 0 ee;chain 2 0 ee;chain 2 0 es;");
        Check.due("2 and 2 are over 3", z.joint(0, 1), 1);
        Check.due("2 and 1 are not over 3", z.joint(0, 2), 0);
        BentYards w = Check.told("yard 5 5 2;chain 0 0 seee;chain 3 1 s;chain 3 1 e;");
        Check.due("a straight chain and another direction", w.joint(0, 1), 0);
        Check.due("a straight chain and its direction", w.joint(0, 2), 1);
        Check.due("no chain 3", w.joint(0, 3), BentYards.BAD);
    }

    /** "together longer than LIMIT": as long as LIMIT, and less, is none. */
    private static void jointsByLimit() {
        for (int limit = 1; limit <= 3; limit++) {
            for (int one = 1; one <= 3; one++) {
                for (int two = 1; one + two <= 4; two++) {
                    BentYards x = Check.told("yard 5 5 " + limit + ";chain 0 0 s" + "e".repeat(one) + ";chain "
                            + one + " 1 " + "e".repeat(two) + "s;");
                    String call = "joint of " + one + " and " + two + " by " + limit;
                    Check.due(call, x.joint(0, 1), one + two > limit ? 1 : 0);
                    Check.due(call + ", the other way about", x.joint(1, 0), 0);
                }
            }
        }
        BentYards whole = Check.told("yard 5 5 3;chain 0 0 ee;chain 2 0 ee;chain 4 0 ww;chain 2 0 w;");
        Check.due("one run each, over 3", whole.joint(0, 1), 1);
        Check.due("turning about", whole.joint(1, 2), 0);
        Check.due("2 and 1 are 3", whole.joint(2, 3), 0);
        Check.due("ends elsewhere, the same direction", whole.joint(0, 0), 0);
        BentYards turning = Check.told("yard 5 5 3;chain 0 0 eewe;chain 2 0 ewee;");
        Check.due("the last run and the first run alone", turning.joint(0, 1), 0);
    }

    /** "BAD (there is no such thing)": of no chains each number is none. */
    private static void noChains() {
        BentYards x = new BentYards();
        int[] ks = {0, 1, -1, 3, 4, Integer.MIN_VALUE, Integer.MAX_VALUE};
        for (int k : ks) {
            for (int what = 0; what < 4; what++) {
                Check.due("chain " + k + " " + what + " of none", x.chain(k, what), BentYards.BAD);
            }
            Check.due("step of none " + k, x.step(k, 0), BentYards.BAD);
            Check.due("straight of none " + k, x.straight(k), BentYards.BAD);
            Check.due("joint of none " + k, x.joint(k, k), BentYards.BAD);
            Check.due("mend of none " + k, x.mend(k, -1), BentYards.BAD);
            Check.due("mark of none " + k, x.mark(0, k), BentYards.NO);
        }
        BentYards four = Check.told("chain 0 0 e;chain 0 0 e;chain 0 0 e;chain 0 0 e;");
        Check.due("the fourth", four.chain(3, 2), 1);
        Check.due("no fifth", four.chain(4, 2), BentYards.BAD);
        four.close();
        Check.due("closed, so none", four.chain(3, 2), BentYards.BAD);
        Check.due("closed, so no step", four.step(3, 0), BentYards.BAD);
        Check.due("closed, so not straight", four.straight(3), BentYards.BAD);
        Check.due("closed, so no joint", four.joint(0, 3), BentYards.BAD);
        Check.due("closed, so not mended", four.mend(3, -1), BentYards.BAD);
    }
}
