/** Promises 17 to 20: build, raze, street, close. */
public final class BuildTest {
    public static void main(String[] args) {
        building();
        razing();
        streets();
        badStreets();
        straightStreets();
        streetsWithJoints();
        fullOfStreets();
        closing();
        Check.end();
    }

    private static void building() {
        BentYards x = Check.told("yard 3 2 1;chain 0 0 e;");
        Check.due("on a chain's first cell", x.build(0), BentYards.STATE);
        Check.due("on a chain's last cell", x.build(1), BentYards.STATE);
        Check.due("on an open cell", x.build(2), 1);
        Check.due("on another", x.build(5), 2);
        Check.due("on a house", x.build(5), BentYards.STATE);
        int[] bad = {-1, 6, 32, Integer.MIN_VALUE, Integer.MAX_VALUE};
        for (int c : bad) {
            Check.due("build " + c, x.build(c), BentYards.BAD);
            Check.due("raze " + c, x.raze(c), BentYards.BAD);
        }
        Check.due("houses", x.count(3), 2);
        Check.due("the house is there", x.cell(5), 1);
    }

    private static void razing() {
        BentYards x = Check.told("yard 3 2 1;house 0 0;house 2 1;chain 1 0 s;");
        Check.due("raze an open cell", x.raze(2), BentYards.STATE);
        Check.due("raze a chain", x.raze(1), BentYards.STATE);
        Check.due("raze a house", x.raze(0), 1);
        Check.due("it's open", x.cell(0), 0);
        Check.due("raze it again", x.raze(0), BentYards.STATE);
        Check.due("raze the last", x.raze(5), 0);
        Check.due("build again", x.build(5), 1);
    }

    private static void streets() {
        BentYards x = new BentYards();
        Check.due("nine steps", x.street(12, 123412341), 1);
        Check.row("its steps", i -> x.step(0, i), "neswneswn");
        Check.due("its first", x.chain(0, 0), 12);
        Check.due("its last", x.chain(0, 1), 7);
        Check.due("how many steps", x.chain(0, 2), 9);
        Check.due("it is on its cells", x.cell(8), 2);
        Check.due("one step", x.street(0, 2), 2);
        Check.row("its step", i -> x.step(1, i), "e");
        Check.due("over a chain", x.street(8, 34), 3);
        Check.due("nobody builds on it", x.build(13), BentYards.STATE);
    }

    private static void badStreets() {
        BentYards x = Check.told("yard 3 3 1;house 1 1;");
        int[] bad = {0, -1, -2, -23, 5, 9, 10, 20, 204, 2054, 25, 52, 1, 4, 14, 41, 23, 32, 2423, 242424241,
            1234123412, 1111111111, 1242424242, 2042424242, Integer.MIN_VALUE, Integer.MAX_VALUE};
        for (int steps : bad) {
            Check.due("street(0, " + steps + ")", x.street(0, steps), BentYards.BAD);
        }
        int[] badCells = {-1, 4, 9, 25, Integer.MIN_VALUE, Integer.MAX_VALUE};
        for (int c : badCells) {
            Check.due("street(" + c + ", 2)", x.street(c, 2), BentYards.BAD);
        }
        Check.due("none came", x.count(4), 0);
        Check.due("nine figures", x.street(0, 242424242), 1);
        Check.due("its last", x.chain(0, 1), 1);
    }

    private static void straightStreets() {
        BentYards x = new BentYards();
        Check.due("straight by 1", x.street(12, 11), BentYards.STATE);
        Check.due("straight at its end", x.street(12, 12344), BentYards.STATE);
        Check.due("straight, but it leads out", x.street(2, 111), BentYards.BAD);
        BentYards y = Check.told("yard 5 5 2;");
        Check.due("not straight by 2", y.street(12, 11), 1);
        Check.due("straight by 2", y.street(24, 111), BentYards.STATE);
        BentYards z = Check.told("yard 5 5 3;");
        Check.due("not straight by 3", z.street(24, 111), 1);
        Check.due("straight by 3", z.street(24, 4444), BentYards.STATE);
        Check.due("one came", z.count(4), 1);
    }

    private static void streetsWithJoints() {
        BentYards x = new BentYards();
        Check.due("n from 12", x.street(12, 1), 1);
        Check.due("goes on behind it", x.street(7, 1), BentYards.STATE);
        Check.due("comes ahead of it", x.street(17, 1), BentYards.STATE);
        Check.due("turns behind it", x.street(7, 2), 2);
        Check.due("turns about behind it", x.street(7, 3), 3);
        Check.due("three are there", x.count(4), 3);
        // a joint of the street with itself is none with another one
        BentYards self = new BentYards();
        Check.due("with itself", self.street(6, 241342), 1);
        Check.due("that is a joint", self.joint(0, 0), 1);
        Check.due("the same again is one with another one", self.street(6, 241342), BentYards.STATE);
        BentYards two = Check.told("yard 5 5 2;chain 0 0 ee;chain 0 4 ne;");
        Check.due("2 and 1 are over 2", two.street(2, 2), BentYards.STATE);
        Check.due("1 and 1 are not over 2", two.street(16, 21), 3);
    }

    private static void fullOfStreets() {
        BentYards x = Check.told("chain 0 0 e;chain 2 0 e;chain 0 4 n;chain 4 4 n;");
        Check.due("a fifth", x.street(12, 12), BentYards.FULL);
        Check.due("a fifth that is straight", x.street(12, 11), BentYards.STATE);
        Check.due("a fifth with a joint", x.street(1, 2), BentYards.STATE);
        Check.due("a fifth that leads out", x.street(1, 1), BentYards.BAD);
        Check.due("four are there", x.count(4), 4);
        Check.due("its cell is open", x.cell(12), 0);
        x.close();
        Check.due("a fourth", x.street(12, 12), 4);
    }

    private static void closing() {
        BentYards x = Check.told("chain 0 0 e;chain 0 0 s;chain 4 4 n;");
        Check.due("close the last", x.close(), 2);
        Check.due("its cell is open", x.cell(24), 0);
        Check.due("the first stays", x.cell(1), 2);
        Check.due("close the second", x.close(), 1);
        Check.due("no second", x.chain(1, 0), BentYards.BAD);
        Check.due("the first's cell stays", x.cell(0), 2);
        Check.due("close the first", x.close(), 0);
        Check.due("all open", x.lines(1), 40);
        Check.due("close none", x.close(), BentYards.STATE);
        Check.due("still none", x.count(4), 0);
    }
}
