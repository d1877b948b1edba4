/** Promises 10 to 12: way, ways, mend. */
public final class WayTest {
    public static void main(String[] args) {
        firstOfTheShortest();
        withHouses();
        badWays();
        numbersOfWays();
        mended();
        notMended();
        Check.end();
    }

    private static void firstOfTheShortest() {
        BentYards x = new BentYards();
        Check.due("way to itself", x.way(7, 7, -1), 0);
        Check.row("way(7, 7)", i -> x.way(7, 7, i), "");
        Check.row("way(0, 6)", i -> x.way(0, 6, i), "es");
        Check.row("way(6, 0)", i -> x.way(6, 0, i), "nw");
        Check.due("two cells on", x.way(10, 12, -1), 4);
        Check.row("way(10, 12)", i -> x.way(10, 12, i), "nese");
        // two apart in a row, at the lower edge: e, n, e, s is behind n, e, s, e
        Check.row("way(20, 22)", i -> x.way(20, 22, i), "nese");
        Check.row("way(22, 20)", i -> x.way(22, 20, i), "nwsw");
        BentYards two = Check.told("yard 5 5 2;");
        Check.due("two cells on by 2", two.way(10, 12, -1), 2);
        Check.due("three cells on by 2", two.way(10, 13, -1), 5);
        Check.row("way(10, 13) by 2", i -> two.way(10, 13, i), "neese");
        BentYards three = Check.told("yard 5 1 3;");
        Check.due("three cells on by 3", three.way(0, 3, -1), 3);
        // in one row: back and on again
        Check.row("way(0, 4) by 3", i -> three.way(0, 4, i), "eeewee");
        BentYards one = Check.told("yard 5 1 1;");
        Check.due("in one row by 1", one.way(0, 2, -1), BentYards.NONE);
        Check.due("its steps by 1", one.way(0, 2, 0), BentYards.NONE);
        Check.due("its steps by 1, far", one.way(0, 2, 99), BentYards.NONE);
        Check.due("beside it by 1", one.way(0, 1, -1), 1);
        BentYards bytwo = Check.told("yard 5 1 2;");
        Check.row("way(0, 4) in one row by 2", i -> bytwo.way(0, 4, i), "eeweewee");
        Check.due("chains don't stop it", Check.told("yard 2 1 1;chain 0 0 e;").way(0, 1, -1), 1);
    }

    private static void withHouses() {
        BentYards x = Check.told("yard 3 3 1;house 1 0;house 1 1;");
        // around by the lower row, where e would go on twice
        Check.due("way around", x.way(0, 2, -1), BentYards.NONE);
        BentYards y = Check.told("yard 3 3 2;house 1 0;house 1 1;");
        Check.row("way(0, 2)", i -> y.way(0, 2, i), "sseenn");
        Check.due("shut in", Check.told("yard 3 3 2;house 1 0;house 1 1;house 1 2;").way(0, 2, -1), BentYards.NONE);
    }

    private static void badWays() {
        BentYards x = Check.told("yard 3 2 1;house 1 1;");
        int[] bad = {-1, 4, 6, 25, Integer.MIN_VALUE, Integer.MAX_VALUE};
        for (int c : bad) {
            Check.due("way from " + c, x.way(c, 0, -1), BentYards.BAD);
            Check.due("way to " + c, x.way(0, c, -1), BentYards.BAD);
            Check.due("ways from " + c, x.ways(c, 0, 1), BentYards.BAD);
            Check.due("ways to " + c, x.ways(0, c, 1), BentYards.BAD);
        }
        Check.due("way i -2", x.way(0, 1, -2), BentYards.BAD);
        Check.due("way i least", x.way(0, 1, Integer.MIN_VALUE), BentYards.BAD);
        Check.due("a house to itself", x.way(4, 4, -1), BentYards.BAD);
        Check.due("ways n -1", x.ways(0, 1, -1), BentYards.BAD);
        Check.due("ways n 21", x.ways(0, 1, 21), BentYards.BAD);
        Check.due("ways n most", x.ways(0, 1, Integer.MAX_VALUE), BentYards.BAD);
    }

    private static void numbersOfWays() {
        BentYards x = Check.told("yard 2 2 1;");
        Check.due("0 steps to itself", x.ways(0, 0, 0), 1);
        Check.due("0 steps to another", x.ways(0, 1, 0), 0);
        Check.due("1 step", x.ways(0, 1, 1), 1);
        Check.due("1 step across", x.ways(0, 3, 1), 0);
        // of 2 by 2 cells nothing can be straight: 2 goes on at each step, half of them on the goal
        Check.due("20 steps of 2 by 2", x.ways(0, 0, 20), 1L << 19);
        Check.due("19 steps of 2 by 2", x.ways(0, 0, 19), 0);
        BentYards row = Check.told("yard 5 1 1;");
        Check.due("to and fro", row.ways(0, 0, 20), 1);
        Check.due("to and fro in the midst", row.ways(2, 2, 20), 2);
        Check.due("not over by 1", row.ways(0, 2, 20), 0);
        BentYards three = Check.told("yard 4 1 3;");
        Check.due("eee", three.ways(0, 3, 3), 1);
        Check.due("eee by 2", Check.told("yard 4 1 2;").ways(0, 3, 3), 0);
        // eeww, ewew, ewwe, weew, wewe
        Check.due("to itself by 4", three.ways(1, 1, 4), 5);
        BentYards open = Check.told("yard 5 5 3;");
        Check.due("20 steps of 5 by 5 by 3 exceed an int", open.ways(12, 12, 20) > Integer.MAX_VALUE ? 1 : 0, 1);
    }

    private static void mended() {
        BentYards x = Check.told("yard 5 5 1;chain 0 0 ee;chain 0 0 eses;chain 0 0 eess;chain 2 2 nn;");
        Check.due("ee", x.mend(0, -1), BentYards.NONE);
        Check.due("its step", x.mend(0, 0), BentYards.NONE);
        Check.due("its step behind", x.mend(0, 2), BentYards.NONE);
        Check.due("nothing to mend", x.mend(1, -1), 0);
        Check.row("mend(1, i)", i -> x.mend(1, i), "eses");
        // eses and sese differ in two each: eses is the first
        Check.due("eess", x.mend(2, -1), 2);
        Check.row("mend(2, i)", i -> x.mend(2, i), "eses");
        Check.due("nn", x.mend(3, -1), BentYards.NONE);
        BentYards y = Check.told("yard 5 5 2;chain 1 2 eeew;");
        // one step alone can't differ; the last one and another one can: nees, eens, eewe, ewee and more
        Check.due("eeew", y.mend(0, -1), 2);
        Check.row("mend eeew", i -> y.mend(0, i), "nees");
        BentYards z = Check.told("yard 4 1 2;chain 0 0 eeewe;");
        Check.due("in one row", z.mend(0, -1), 2);
        Check.row("mend in one row", i -> z.mend(0, i), "eewee");
        BentYards twelve = Check.told("yard 5 5 2;house 2 2;chain 0 0 eeeesssswwww;");
        Check.due("twelve steps", twelve.mend(0, -1), 3);
        Check.row("mend twelve steps", i -> twelve.mend(0, i), "eesesnsswsww");
        BentYards high = Check.told("yard 2 5 1;chain 0 0 ss;chain 0 3 nesw;");
        Check.due("no way of two steps", high.mend(0, -1), BentYards.NONE);
        Check.due("a round", high.mend(1, -1), 0);
        Check.row("way(0, 8) of 2 by 5", i -> high.way(0, 8, i), "eswsesws");
    }

    private static void notMended() {
        BentYards x = Check.told("yard 5 1 3;chain 0 0 eeee;");
        Check.due("no other row", x.mend(0, -1), BentYards.NONE);
        Check.due("mend i -2", x.mend(0, -2), BentYards.BAD);
        Check.due("mend i least", x.mend(0, Integer.MIN_VALUE), BentYards.BAD);
        Check.due("mend of none", x.mend(1, -1), BentYards.BAD);
        Check.due("mend of -1", x.mend(-1, -1), BentYards.BAD);
        Check.due("mend changes nothing", x.straight(0), 3);
    }
}
