/** Promises 10 to 12: way, ways, mend. */
public final class WayTest {
    public static void main(String[] args) {
        firstOfTheShortest();
        withHouses();
        badWays();
        longestWays();
        westByThree();
        waysToItself();
        numbersOfWays();
        mended();
        notMended();
        mendedByTurns();
        Check.end();
    }

    private static void firstOfTheShortest() {
        BentYards x = new BentYards();
        Check.due("way to itself", x.way(7, 7, -1), 0);
        Check.row("way(7, 7)", i -> x.way(7, 7, i), "");
        Check.row("way(0, 6)", i -> x.way(0, 6, i), "es");
        Check.row("way(6, 0)", i -> x.way(6, 0, i), "nw");
        Check.due("two cells on", x.way(10, 12, -1), 4);
        Check.row("way(10, 12)", i -> x.way(10, 12, i), "nese");
        // two apart in a row, at the lower edge: e, n, e, s is behind n, e, s, e
        Check.row("way(20, 22)", i -> x.way(20, 22, i), "nese");
        Check.row("way(22, 20)", i -> x.way(22, 20, i), "nwsw");
        BentYards two = Check.told("yard 5 5 2;");
        Check.due("two cells on by 2", two.way(10, 12, -1), 2);
        Check.due("three cells on by 2", two.way(10, 13, -1), 5);
        Check.row("way(10, 13) by 2", i -> two.way(10, 13, i), "neese");
        BentYards three = Check.told("yard 5 1 3;");
        Check.due("three cells on by 3", three.way(0, 3, -1), 3);
        // in one row: back and on again
        Check.row("way(0, 4) by 3", i -> three.way(0, 4, i), "eeewee");
        BentYards one = Check.told("yard 5 1 1;");
        Check.due("in one row by 1", one.way(0, 2, -1), BentYards.NONE);
        Check.due("its steps by 1", one.way(0, 2, 0), BentYards.NONE);
        Check.due("its steps by 1, far", one.way(0, 2, 99), BentYards.NONE);
        Check.due("beside it by 1", one.way(0, 1, -1), 1);
        BentYards bytwo = Check.told("yard 5 1 2;");
        Check.row("way(0, 4) in one row by 2", i -> bytwo.way(0, 4, i), "eeweewee");
        Check.due("chains don't stop it", Check.told("yard 2 1 1;chain 0 0 e;").way(0, 1, -1), 1);
    }

    private static void withHouses() {
        BentYards x = Check.told("yard 3 3 1;house 1 0;house 1 1;");
        // around by the lower row, where e would go on twice
        Check.due("way around", x.way(0, 2, -1), BentYards.NONE);
        BentYards y = Check.told("yard 3 3 2;house 1 0;house 1 1;");
        Check.row("way(0, 2)", i -> y.way(0, 2, i), "sseenn");
        Check.due("shut in", Check.told("yard 3 3 2;house 1 0;house 1 1;house 1 2;").way(0, 2, -1), BentYards.NONE);
    }

    private static void badWays() {
        BentYards x = Check.told("yard 3 2 1;house 1 1;");
        int[] bad = {-1, 4, 6, 25, Integer.MIN_VALUE, Integer.MAX_VALUE};
        for (int c : bad) {
            Check.due("way from " + c, x.way(c, 0, -1), BentYards.BAD);
            Check.due("way to " + c, x.way(0, c, -1), BentYards.BAD);
            Check.due("ways from " + c, x.ways(c, 0, 1), BentYards.BAD);
            Check.due("ways to " + c, x.ways(0, c, 1), BentYards.BAD);
        }
        Check.due("way i -2", x.way(0, 1, -2), BentYards.BAD);
        Check.due("way i least", x.way(0, 1, Integer.MIN_VALUE), BentYards.BAD);
        Check.due("a house to itself", x.way(4, 4, -1), BentYards.BAD);
        Check.due("ways n -1", x.ways(0, 1, -1), BentYards.BAD);
        Check.due("ways n 21", x.ways(0, 1, 21), BentYards.BAD);
        Check.due("ways n most", x.ways(0, 1, Integer.MAX_VALUE), BentYards.BAD);
    }

    /**
     * "NONE: not by 60 STEPS". Of all 5 by 5 yards the longest ways by 1, 2 and 3 have 20, 28 and 22 steps,
     * so that no way has 60 or more; these three are found, and where one house more stands in, none.
     */
    private static void longestWays() {
        BentYards one = Check.told("yard 5 5 1;house 2 0;house 0 1;house 4 1;house 2 2;house 4 4;");
        Check.due("longest by 1", one.way(0, 4, -1), 20);
        Check.row("longest by 1", i -> one.way(0, 4, i), "esewswesesnenewnwene");
        String walls = "house 1 0;house 1 1;house 3 1;house 1 2;house 3 2;house 1 3;house 3 3;house 3 4;";
        BentYards two = Check.told("yard 5 5 2;" + walls);
        Check.due("longest by 2", two.way(0, 24, -1), 28);
        Check.row("longest by 2", i -> two.way(0, 24, i), "ssnssnsseennsnnsnneessnssnss");
        BentYards three = Check.told("yard 5 5 3;" + walls);
        Check.due("longest by 3", three.way(0, 24, -1), 22);
        Check.row("longest by 3", i -> three.way(0, 24, i), "ssnssseennnsnneessnsss");
        two.build(12);
        Check.due("shut", two.way(0, 24, -1), BentYards.NONE);
        for (int i = 0; i <= 61; i++) {
            Check.due("shut, step " + i, two.way(0, 24, i), BentYards.NONE);
        }
        Check.due("shut, step most", two.way(0, 24, Integer.MAX_VALUE), BentYards.NONE);
        Check.due("BAD is ahead of NONE", two.way(0, 24, -2), BentYards.BAD);
        BentYards all = Check.told("yard 5 5 1;" + walls);
        Check.due("straight walls by 1", all.way(0, 24, -1), BentYards.NONE);
    }

    /** LIMIT 3 to the west, which is the last of directions and of runs. */
    private static void westByThree() {
        BentYards x = Check.told("yard 5 1 3;");
        // e is ahead of w, so it comes as early as it can
        Check.row("way(4, 0)", i -> x.way(4, 0, i), "wwewww");
        Check.due("www", x.ways(4, 1, 3), 1);
        Check.due("wwww", x.ways(4, 0, 4), 0);
        // wwweww, wwewww
        Check.due("ways(4, 0, 6)", x.ways(4, 0, 6), 2);
        BentYards y = Check.told("yard 1 5 3;");
        Check.row("way(0, 4) down", i -> y.way(0, 4, i), "ssnsss");
        Check.row("way(4, 0) up", i -> y.way(4, 0, i), "nnnsnn");
    }

    /** "(0 STEPS to itself.)", also where nothing else can be gone to. */
    private static void waysToItself() {
        BentYards one = Check.told("yard 1 1 1;");
        Check.due("one cell", one.way(0, 0, -1), 0);
        Check.due("no step", one.way(0, 0, 0), -5);
        Check.due("one cell, 0 steps", one.ways(0, 0, 0), 1);
        Check.due("one cell, 20 steps", one.ways(0, 0, 20), 0);
        BentYards x = Check.told("house 1 0;house 0 1;");
        Check.due("shut in, to itself", x.way(0, 0, -1), 0);
        Check.due("shut in, out", x.way(0, 24, -1), BentYards.NONE);
        Check.due("shut in, into", x.way(24, 0, -1), BentYards.NONE);
        Check.due("shut in, 0 steps", x.ways(0, 0, 0), 1);
        Check.due("shut in, 2 steps", x.ways(0, 0, 2), 0);
        for (int a = 0; a < 25; a++) {
            BentYards all = new BentYards();
            for (int b = 0; b < 25; b++) {
                Check.due("0 steps from " + a + " to " + b, all.ways(a, b, 0), a == b ? 1 : 0);
                Check.due("is it 0 steps from " + a + " to " + b, all.way(a, b, -1) == 0 ? 1 : 0, a == b ? 1 : 0);
            }
        }
    }

    private static void numbersOfWays() {
        BentYards x = Check.told("yard 2 2 1;");
        Check.due("0 steps to itself", x.ways(0, 0, 0), 1);
        Check.due("0 steps to another", x.ways(0, 1, 0), 0);
        Check.due("1 step", x.ways(0, 1, 1), 1);
        Check.due("1 step across", x.ways(0, 3, 1), 0);
        // of 2 by 2 cells nothing can be straight: 2 goes on at each step, half of them on the goal
        Check.due("20 steps of 2 by 2", x.ways(0, 0, 20), 1L << 19);
        Check.due("19 steps of 2 by 2", x.ways(0, 0, 19), 0);
        BentYards row = Check.told("yard 5 1 1;");
        Check.due("to and fro", row.ways(0, 0, 20), 1);
        Check.due("to and fro in the midst", row.ways(2, 2, 20), 2);
        Check.due("not over by 1", row.ways(0, 2, 20), 0);
        BentYards three = Check.told("yard 4 1 3;");
        Check.due("eee", three.ways(0, 3, 3), 1);
        Check.due("eee by 2", Check.told("yard 4 1 2;").ways(0, 3, 3), 0);
        // eeww, ewew, ewwe, weew, wewe
        Check.due("to itself by 4", three.ways(1, 1, 4), 5);
        BentYards open = Check.told("yard 5 5 3;");
        Check.due("20 steps of 5 by 5 by 3 exceed an int", open.ways(12, 12, 20), 13413104192L);
        Check.due("20 steps from the last cell", open.ways(24, 24, 20), 841947556);
        Check.due("8 steps over the yard", open.ways(24, 0, 8), 62);
        Check.due("1 step back", x.ways(1, 0, 1), 1);
        Check.due("0 steps back", x.ways(1, 0, 0), 0);
    }

    private static void mended() {
        BentYards x = Check.told("yard 5 5 1;chain 0 0 ee;chain 0 0 eses;chain 0 0 eess;chain 2 2 nn;");
        Check.due("ee", x.mend(0, -1), BentYards.NONE);
        Check.due("its step", x.mend(0, 0), BentYards.NONE);
        Check.due("its step behind", x.mend(0, 2), BentYards.NONE);
        Check.due("nothing to mend", x.mend(1, -1), 0);
        Check.row("mend(1, i)", i -> x.mend(1, i), "eses");
        // eses and sese differ in two each: eses is the first
        Check.due("eess", x.mend(2, -1), 2);
        Check.row("mend(2, i)", i -> x.mend(2, i), "eses");
        Check.due("nn", x.mend(3, -1), BentYards.NONE);
        BentYards y = Check.told("yard 5 5 2;chain 1 2 eeew;");
        // one step alone can't differ; the last one and another one can: nees, eens, eewe, ewee and more
        Check.due("eeew", y.mend(0, -1), 2);
        Check.row("mend eeew", i -> y.mend(0, i), "nees");
        BentYards z = Check.told("yard 4 1 2;chain 0 0 eeewe;");
        Check.due("in one row", z.mend(0, -1), 2);
        Check.row("mend in one row", i -> z.mend(0, i), "eewee");
        BentYards twelve = Check.told("yard 5 5 2;house 2 2;chain 0 0 eeeesssswwww;");
        Check.due("twelve steps", twelve.mend(0, -1), 3);
        Check.row("mend twelve steps", i -> twelve.mend(0, i), "eesesnsswsww");
        BentYards high = Check.told("yard 2 5 1;chain 0 0 ss;chain 0 3 nesw;");
        Check.due("no way of two steps", high.mend(0, -1), BentYards.NONE);
        Check.due("a round", high.mend(1, -1), 0);
        Check.row("way(0, 8) of 2 by 5", i -> high.way(0, 8, i), "eswsesws");
    }

    private static void notMended() {
        BentYards x = Check.told("yard 5 1 3;chain 0 0 eeee;");
        Check.due("no other row", x.mend(0, -1), BentYards.NONE);
        Check.due("mend i -2", x.mend(0, -2), BentYards.BAD);
        Check.due("mend i least", x.mend(0, Integer.MIN_VALUE), BentYards.BAD);
        Check.due("mend of none", x.mend(1, -1), BentYards.BAD);
        Check.due("mend of -1", x.mend(-1, -1), BentYards.BAD);
        Check.due("mend changes nothing", x.straight(0), 3);
    }

    /** "one that differs from it in the fewest STEPS, of these the first", "NONE". */
    private static void mendedByTurns() {
        BentYards x = Check.told("yard 5 1 3;chain 4 0 wwwwee;chain 0 0 eeeeww;chain 4 0 www;chain 4 0 w;");
        // e is ahead of w: it comes as far ahead as it can to the west, and stays behind to the east
        Check.due("to the west", x.mend(0, -1), 2);
        Check.row("to the west", i -> x.mend(0, i), "wewwew");
        Check.due("to the east", x.mend(1, -1), 2);
        Check.row("to the east", i -> x.mend(1, i), "eeewew");
        Check.due("www is well", x.mend(2, -1), 0);
        Check.row("www is well", i -> x.mend(2, i), "www");
        Check.row("one step", i -> x.mend(3, i), "w");
        BentYards y = Check.told("house 3 3;chain 2 2 nnss;chain 4 4 nnww;chain 0 0 eeww;chain 0 0 sse;");
        Check.due("to and fro", y.mend(0, -1), 2);
        Check.row("to and fro", i -> y.mend(0, i), "nesw");
        Check.due("around a house", y.mend(1, -1), BentYards.NONE);
        Check.due("its steps", y.mend(1, 3), BentYards.NONE);
        Check.due("behind its steps", y.mend(1, 4), BentYards.NONE);
        Check.due("BAD is ahead of NONE", y.mend(1, -2), BentYards.BAD);
        Check.due("in a corner", y.mend(2, -1), 2);
        Check.row("in a corner", i -> y.mend(2, i), "esnw");
        Check.due("two of three", y.mend(3, -1), 2);
        Check.row("two of three", i -> y.mend(3, i), "ses");
        BentYards most = Check.told("yard 3 3 1;chain 0 0 eesswwnn;");
        Check.due("four differ", most.mend(0, -1), 4);
        Check.row("four differ", i -> most.mend(0, i), "esnsnwsn");
    }
}
