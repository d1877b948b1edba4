/** Promises 17 to 20: build, raze, street, close. */
public final class BuildTest {
    public static void main(String[] args) {
        building();
        buildingEverywhere();
        razing();
        streets();
        badStreets();
        straightStreets();
        streetsWithJoints();
        streetsWithClosedOnes();
        streetsOfEachLength();
        streetsByEachFigure();
        fullOfStreets();
        badAheadOfStateAheadOfFull();
        closing();
        Check.end();
    }

    private static void building() {
        BentYards x = Check.told("yard 3 2 1;chain 0 0 e;");
        Check.due("on a chain's first cell", x.build(0), BentYards.STATE);
        Check.due("on a chain's last cell", x.build(1), BentYards.STATE);
        Check.due("on an open cell", x.build(2), 1);
        Check.due("on another", x.build(5), 2);
        Check.due("on a house", x.build(5), BentYards.STATE);
        int[] bad = {-1, 6, 32, Integer.MIN_VALUE, Integer.MAX_VALUE};
        for (int c : bad) {
            Check.due("build " + c, x.build(c), BentYards.BAD);
            Check.due("raze " + c, x.raze(c), BentYards.BAD);
        }
        Check.due("houses", x.count(3), 2);
        Check.due("the house is there", x.cell(5), 1);
    }

    /** "on a CELL without a HOUSE and a CHAIN": from none to as many as there are cells, and back. */
    private static void buildingEverywhere() {
        BentYards x = new BentYards();
        for (int c = 0; c < 25; c++) {
            Check.due("raze where none is, " + c, x.raze(c), BentYards.STATE);
            Check.due("build " + c, x.build(c), c + 1);
            Check.due("build " + c + " again", x.build(c), BentYards.STATE);
        }
        Check.due("no more cells", x.build(25), BentYards.BAD);
        Check.due("all houses", x.count(3), 25);
        Check.due("no cell to begin on", x.street(12, 1), BentYards.BAD);
        Check.due("no lines", x.lines(0), 0);
        Check.due("no way", x.way(12, 12, -1), BentYards.BAD);
        for (int c = 24; c >= 0; c--) {
            Check.due("raze " + c, x.raze(c), c);
        }
        Check.due("no houses", x.count(3), 0);
        BentYards y = Check.told("yard 4 1 3;chain 0 0 eee;");
        for (int c = 0; c < 4; c++) {
            Check.due("where a chain begins or comes, " + c, y.build(c), BentYards.STATE);
            Check.due("no house to raze, " + c, y.raze(c), BentYards.STATE);
        }
        y.close();
        Check.due("where a chain was", y.build(1), 1);
        Check.due("now its way is shut", y.way(0, 2, -1), BentYards.NONE);
        Check.due("and no street goes there", y.street(0, 2), BentYards.BAD);
        y.raze(1);
        Check.due("now it does", y.street(0, 2), 1);
    }

    private static void razing() {
        BentYards x = Check.told("yard 3 2 1;house 0 0;house 2 1;chain 1 0 s;");
        Check.due("raze an open cell", x.raze(2), BentYards.STATE);
        Check.due("raze a chain", x.raze(1), BentYards.STATE);
        Check.due("raze a house", x.raze(0), 1);
        Check.due("it's open", x.cell(0), 0);
        Check.due("raze it again", x.raze(0), BentYards.STATE);
        Check.due("raze the last", x.raze(5), 0);
        Check.due("build again", x.build(5), 1);
    }

    private static void streets() {
        BentYards x = new BentYards();
        Check.due("nine steps", x.street(12, 123412341), 1);
        Check.row("its steps", i -> x.step(0, i), "neswneswn");
        Check.due("its first", x.chain(0, 0), 12);
        Check.due("its last", x.chain(0, 1), 7);
        Check.due("how many steps", x.chain(0, 2), 9);
        Check.due("it is on its cells", x.cell(8), 2);
        Check.due("one step", x.street(0, 2), 2);
        Check.row("its step", i -> x.step(1, i), "e");
        Check.due("over a chain", x.street(8, 34), 3);
        Check.due("nobody builds on it", x.build(13), BentYards.STATE);
    }

    private static void badStreets() {
        BentYards x = Check.told("yard 3 3 1;house 1 1;");
        int[] bad = {0, -1, -2, -23, 5, 9, 10, 20, 204, 2054, 25, 52, 1, 4, 14, 41, 23, 32, 2423, 242424241,
            1234123412, 1111111111, 1242424242, 2042424242, Integer.MIN_VALUE, Integer.MAX_VALUE};
        for (int steps : bad) {
            Check.due("street(0, " + steps + ")", x.street(0, steps), BentYards.BAD);
        }
        int[] badCells = {-1, 4, 9, 25, Integer.MIN_VALUE, Integer.MAX_VALUE};
        for (int c : badCells) {
            Check.due("street(" + c + ", 2)", x.street(c, 2), BentYards.BAD);
        }
        Check.due("none came", x.count(4), 0);
        Check.due("nine figures", x.street(0, 242424242), 1);
        Check.due("its last", x.chain(0, 1), 1);
    }

    private static void straightStreets() {
        BentYards x = new BentYards();
        Check.due("straight by 1", x.street(12, 11), BentYards.STATE);
        Check.due("straight at its end", x.street(12, 12344), BentYards.STATE);
        Check.due("straight, but it leads out", x.street(2, 111), BentYards.BAD);
        BentYards y = Check.told("yard 5 5 2;");
        Check.due("not straight by 2", y.street(12, 11), 1);
        Check.due("straight by 2", y.street(24, 111), BentYards.STATE);
        BentYards z = Check.told("yard 5 5 3;");
        Check.due("not straight by 3", z.street(24, 111), 1);
        Check.due("straight by 3", z.street(24, 4444), BentYards.STATE);
        Check.due("one came", z.count(4), 1);
    }

    private static void streetsWithJoints() {
        BentYards x = new BentYards();
        Check.due("n from 12", x.street(12, 1), 1);
        Check.due("goes on behind it", x.street(7, 1), BentYards.STATE);
        Check.due("comes ahead of it", x.street(17, 1), BentYards.STATE);
        Check.due("turns behind it", x.street(7, 2), 2);
        Check.due("turns about behind it", x.street(7, 3), 3);
        Check.due("three are there", x.count(4), 3);
        // a joint of the street with itself is none with another one
        BentYards self = new BentYards();
        Check.due("with itself", self.street(6, 241342), 1);
        Check.due("that is a joint", self.joint(0, 0), 1);
        Check.due("the same again is one with another one", self.street(6, 241342), BentYards.STATE);
        BentYards two = Check.told("yard 5 5 2;chain 0 0 ee;chain 0 4 ne;");
        Check.due("2 and 1 are over 2", two.street(2, 2), BentYards.STATE);
        Check.due("1 and 1 are not over 2", two.street(16, 21), 3);
    }

    /** "CLOSED: the last CHAIN goes": a street has no joint with one that went. */
    private static void streetsWithClosedOnes() {
        BentYards x = Check.told("chain 0 4 e;chain 2 2 n;");
        Check.due("behind the last one", x.street(7, 1), BentYards.STATE);
        Check.due("ahead of the last one", x.street(17, 1), BentYards.STATE);
        x.close();
        Check.due("behind one that went", x.street(7, 1), 2);
        x.close();
        Check.due("ahead of one that went", x.street(17, 1), 2);
        x.close();
        x.close();
        Check.due("behind the first that went", x.street(21, 2), 1);
        Check.due("where it went too", x.street(20, 2), BentYards.STATE);
        BentYards told = Check.told("chain 0 4 e;chain 2 2 n;chain 2 1 n;chain 2 0 s;");
        Check.tell(told, "chain 4 4 n;");
        Check.due("behind one of a text before", told.street(7, 1), 2);
    }

    /** "1 to 12 STEPS" of a text, "9 at most" of a street: 1 to 9 figures, and 10 of an int. */
    private static void streetsOfEachLength() {
        int steps = 0;
        for (int n = 1; n <= 9; n++) {
            steps = steps * 10 + (n % 2 == 1 ? 2 : 4);
            BentYards x = new BentYards();
            Check.due("street of " + n, x.street(0, steps), 1);
            Check.due("its steps", x.chain(0, 2), n);
            Check.due("its last", x.chain(0, 1), n % 2);
            Check.due("behind its last", x.step(0, n), -5);
        }
        BentYards y = new BentYards();
        Check.due("ten figures", y.street(12, 1313131313), BentYards.BAD);
        Check.due("ten figures that begin with 2", y.street(12, 2131313131), BentYards.BAD);
        Check.due("no figure", y.street(12, 0), BentYards.BAD);
        Check.due("below 0", y.street(12, -13), BentYards.BAD);
        Check.due("nine figures below 0", y.street(12, -131313131), BentYards.BAD);
        Check.due("none came", y.count(4), 0);
    }

    /** "a figure is none": 0 and 5 to 9, at the first, a middle and the last place. */
    private static void streetsByEachFigure() {
        for (int f = 0; f <= 9; f++) {
            BentYards x = new BentYards();
            boolean isStep = f >= 1 && f <= 4;
            int ahead = f * 100 + (f == 2 || f == 4 ? 13 : 24);
            int behind = (f == 2 || f == 4 ? 310 : 420) + f;
            // a 0 as the highest is no figure at all
            Check.due("first " + f, x.street(12, ahead), isStep || f == 0 ? 1 : BentYards.BAD);
            x.close();
            Check.due("last " + f, x.street(12, behind), isStep ? 1 : BentYards.BAD);
            Check.due("in the midst " + f, new BentYards().street(12, (f == 1 || f == 3 ? 202 : 101) + 10 * f),
                    isStep ? 1 : BentYards.BAD);
            Check.due("alone " + f, new BentYards().street(12, f), isStep ? 1 : BentYards.BAD);
            Check.due("twice " + f, new BentYards().street(12, 11 * f), isStep ? BentYards.STATE : BentYards.BAD);
        }
        int[] want = {7, 13, 17, 11};
        for (int f = 1; f <= 4; f++) {
            BentYards x = new BentYards();
            x.street(12, f);
            Check.due("where figure " + f + " leads", x.chain(0, 1), want[f - 1]);
            Check.due("its step", x.step(0, 0), f - 1);
        }
        // out at each side, from each corner
        BentYards out = new BentYards();
        int[] corners = {0, 4, 24, 20};
        int[][] ways = {{1, 4}, {1, 2}, {2, 3}, {3, 4}};
        for (int i = 0; i < 4; i++) {
            for (int f : ways[i]) {
                Check.due("out of " + corners[i] + " by " + f, out.street(corners[i], f), BentYards.BAD);
            }
        }
    }

    private static void fullOfStreets() {
        BentYards x = Check.told("chain 0 0 e;chain 2 0 e;chain 0 4 n;chain 4 4 n;");
        Check.due("a fifth", x.street(12, 12), BentYards.FULL);
        Check.due("a fifth that is straight", x.street(12, 11), BentYards.STATE);
        Check.due("a fifth with a joint", x.street(1, 2), BentYards.STATE);
        Check.due("a fifth that leads out", x.street(1, 1), BentYards.BAD);
        Check.due("four are there", x.count(4), 4);
        Check.due("its cell is open", x.cell(12), 0);
        x.close();
        Check.due("a fourth", x.street(12, 12), 4);
    }

    private static void closing() {
        BentYards x = Check.told("chain 0 0 e;chain 0 0 s;chain 4 4 n;");
        Check.due("close the last", x.close(), 2);
        Check.due("its cell is open", x.cell(24), 0);
        Check.due("the first stays", x.cell(1), 2);
        Check.due("close the second", x.close(), 1);
        Check.due("no second", x.chain(1, 0), BentYards.BAD);
        Check.due("the first's cell stays", x.cell(0), 2);
        Check.due("close the first", x.close(), 0);
        Check.due("all open", x.lines(1), 40);
        Check.due("close none", x.close(), BentYards.STATE);
        Check.due("still none", x.count(4), 0);
    }

    /** "the first of these: BAD, STATE, FULL". */
    private static void badAheadOfStateAheadOfFull() {
        BentYards x = Check.told("yard 5 5 1;house 0 1;chain 0 0 e;chain 2 0 e;chain 0 4 n;chain 4 4 n;");
        Check.due("full alone", x.street(12, 3), BentYards.FULL);
        Check.due("straight and full", x.street(12, 33), BentYards.STATE);
        Check.due("a joint and full", x.street(1, 2), BentYards.STATE);
        Check.due("a joint the other way about and full", x.street(6, 12), BentYards.STATE);
        Check.due("behind a chain, turning, and full", x.street(1, 3), BentYards.FULL);
        Check.due("straight, out and full", x.street(12, 333), BentYards.BAD);
        Check.due("straight, onto a house and full", x.street(7, 444), BentYards.BAD);
        Check.due("straight, a figure that is none and full", x.street(12, 335), BentYards.BAD);
        Check.due("on a house and full", x.street(5, 2), BentYards.BAD);
        Check.due("no cell and full", x.street(25, 2), BentYards.BAD);
        Check.due("four are there", x.count(4), 4);
        x.close();
        x.close();
        x.close();
        x.close();
        Check.due("none left to close", x.close(), BentYards.STATE);
        Check.due("none", x.count(4), 0);
    }
}
