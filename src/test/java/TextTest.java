/** Promises 1 to 4: a new object, type, clear, yard. */
public final class TextTest {
    public static void main(String[] args) {
        newObject();
        typing();
        clearing();
        reading();
        readingAnew();
        faultsOfTokens();
        faultsOfItems();
        faultsOfChains();
        faultsAtTheEnd();
        nothingChangesByAFault();
        Check.end();
    }

    private static void newObject() {
        BentYards x = new BentYards();
        int[] want = {5, 5, 1, 0, 0, 0};
        for (int what = 0; what < want.length; what++) {
            Check.due("new count " + what, x.count(what), want[what]);
        }
        for (int c = 0; c < 25; c++) {
            Check.due("new cell " + c, x.cell(c), 0);
        }
        Check.due("new trace", x.trace(), 0);
        Check.due("new back(0)", x.back(0), BentYards.STATE);
        Check.due("new back(1)", x.back(1), BentYards.STATE);
        Check.due("new lot", x.lot(7), 1);
    }

    private static void typing() {
        BentYards x = new BentYards();
        Check.due("type n 0", x.type('a', 0), BentYards.BAD);
        Check.due("type n -1", x.type('a', -1), BentYards.BAD);
        Check.due("type n 9", x.type('a', 9), BentYards.BAD);
        Check.due("type n least", x.type('a', Integer.MIN_VALUE), BentYards.BAD);
        Check.due("type n most", x.type('a', Integer.MAX_VALUE), BentYards.BAD);
        Check.due("nothing typed", x.count(5), 0);
        // the bytes above the lowest n don't come
        long highBytes = 0x7171717171717120L;
        Check.due("type one of eight", x.type(highBytes, 1), 1);
        Check.due("a blank alone", x.yard(), 0);
        for (int i = 1; i <= 25; i++) {
            Check.due("type eight blanks", x.type(0x2020202020202020L, 8), 8 * i);
        }
        Check.due("type the 201st", x.type(' ', 1), BentYards.FULL);
        Check.due("BAD is ahead of FULL", x.type(' ', 9), BentYards.BAD);
        Check.due("still 200", x.count(5), 200);
        Check.due("200 blanks", x.yard(), 0);
        for (int i = 1; i <= 24; i++) {
            x.type(0x2020202020202020L, 8);
        }
        Check.due("192 and 5", x.type(0x2020202020L, 5), 197);
        Check.due("197 and 4", x.type(0x20202020L, 4), BentYards.FULL);
        Check.due("197 and 3", x.type(0x202020L, 3), 200);
    }

    private static void clearing() {
        BentYards x = new BentYards();
        Check.due("clear nothing", x.clear(), 0);
        x.type(-1L, 8);
        Check.due("clear eight", x.clear(), 8);
        Check.due("clear again", x.clear(), 0);
        Check.due("count after clear", x.count(5), 0);
        Check.due("yard after clear", x.yard(), 0);
    }

    private static void reading() {
        BentYards x = Check.told("yard 4 3 2;house 1 1;house 3 2;house 1 1;chain 0 0 ewe;");
        int[] want = {4, 3, 2, 2, 1, 0};
        for (int what = 0; what < want.length; what++) {
            Check.due("read count " + what, x.count(what), want[what]);
        }
        Check.due("house at 1 1", x.cell(5), 1);
        Check.due("house at 3 2", x.cell(11), 1);
        Check.due("chain at 0 0", x.cell(0), 2);
        Check.due("cell of 4 by 3", x.cell(12), BentYards.BAD);
        // blanks may stand anywhere between tokens, and need not where a token ends by itself
        Check.told("   yard   1  5 3 ;  chain 0 4 n  ;  ");
        Check.told("yard5 5 1;house4 4;chain0 0e;");
        Check.told("chain 0 0 e;chain 0 0 e;chain 0 0 e;chain 0 0 e;");
        Check.told("chain 0 0 ewewewewewew;");
        Check.told("house 4 4;house 0 4;house 4 0;");
        Check.told("");
    }

    private static void readingAnew() {
        BentYards x = Check.told("yard 2 3 3;house 1 2;chain 0 0 s;");
        x.lot(99);
        x.keep(0);
        x.keep(1);
        x.mark(1, 0);
        Check.tell(x, "house 4 4;");
        int[] want = {5, 5, 1, 1, 0, 0};
        for (int what = 0; what < want.length; what++) {
            Check.due("anew count " + what, x.count(what), want[what]);
        }
        Check.due("image 0 is gone", x.back(0), BentYards.STATE);
        Check.due("image 1 is gone", x.back(1), BentYards.STATE);
        Check.due("the trace stays", x.trace(), 11);
        Check.due("the lot stays", x.lot(0), 99);
    }

    private static void faultsOfTokens() {
        Check.fault("Yard 5 5 1;", 0);
        Check.fault("yarD 5 5 1;", 0);
        Check.fault("yard 5 5 1;#", 11);
        Check.fault("yard 5\t5 1;", 6);
        Check.fault("yard -5 5 1;", 5);
        Check.fault("house 0 100;", 8);
        Check.fault("house 0 99;", 8);
        Check.fault("house 4294967296 0;", 6);
        Check.fault("house 00 0;", 6);
        Check.fault("house 01 0;", 6);
        Check.fault("house 0 04;", 8);
        Check.fault("houses 0 0;", 0);
        Check.fault("yarda 5 5 1;", 0);
        Check.fault("yardz 5 5 1;", 0);
        Check.fault("yard{ 5 5 1;", 4);
        Check.fault("yard` 5 5 1;", 4);
        Check.fault("yard 1/ 5 1;", 6);
        Check.fault("yard 1: 5 1;", 6);
        Check.fault("hous 0 0;", 0);
        Check.fault("  housechain 0 0;", 2);
        Check.fault("7", 0);
        Check.fault(" ;", 1);
        Check.fault("house 0 0;;", 10);
        Check.fault("\u0000", 0);
        Check.fault("   \u00ff", 3);
    }

    private static void faultsOfItems() {
        Check.fault("yard 0 5 1;", 5);
        Check.fault("yard 6 5 1;", 5);
        Check.fault("yard 5 0 1;", 7);
        Check.fault("yard 5 6 1;", 7);
        Check.fault("yard 5 5 0;", 9);
        Check.fault("yard 5 5 4;", 9);
        Check.fault("yard 5 5;", 8);
        Check.fault("yard 5 5 1 1;", 11);
        Check.fault("yard 5 5 1 house 0 0;", 11);
        Check.fault("yard 5 5 1;yard 5 5 1;", 11);
        Check.fault("house 0 0; yard 5 5 1;", 11);
        Check.fault("chain 0 0 e; yard 5 5 1;", 13);
        Check.fault("yard 3 2 1;house 3 0;", 17);
        Check.fault("yard 3 2 1;house 0 2;", 19);
        Check.fault("house 0;", 7);
        Check.fault("house e 0;", 6);
        Check.fault("house 0 0 e;", 10);
        Check.fault("house 0 0 0;", 10);
        Check.fault("chain 0 0 e;house 4 4;", 12);
    }

    private static void faultsOfChains() {
        Check.fault("yard 3 2 1;chain 3 0 e;", 17);
        Check.fault("yard 3 2 1;chain 0 2 e;", 19);
        Check.fault("house 2 3;chain 2 3 n;", 18);
        Check.fault("house 2 3;chain 2 2 s;", 20);
        Check.fault("chain 0 0 n;", 10);
        Check.fault("chain 0 0 w;", 10);
        Check.fault("chain 4 4 e;", 10);
        Check.fault("chain 4 4 s;", 10);
        Check.fault("chain 4 0 se;", 10);
        Check.fault("chain 0 0 ewewewewewewe;", 10);
        Check.fault("chain 0 0 eswx;", 10);
        Check.fault("chain 0 0 house;", 10);
        Check.fault("chain 0 0 1;", 10);
        Check.fault("chain 0 0;", 9);
        Check.fault("chain 0 0 e w;", 12);
        Check.fault("chain 0 0 e;chain 0 0 e;chain 0 0 e;chain 0 0 e;chain 9", 48);
    }

    private static void faultsAtTheEnd() {
        Check.fault("house", 5);
        Check.fault("house  ", 7);
        Check.fault("house 0", 7);
        Check.fault("house 0 0", 9);
        Check.fault("yard 5 5 1", 10);
        Check.fault("yard 5 5 1 ", 11);
        Check.fault("chain 0 0", 9);
        Check.fault("chain 0 0 e", 11);
        Check.fault("house 0 0;chain", 15);
        // what can't stand there is told ahead of the early end
        Check.fault("yard 6", 5);
        Check.fault("chain 0 0 n", 10);
        Check.fault("hous", 0);
    }

    private static void nothingChangesByAFault() {
        BentYards x = Check.told("yard 2 3 3;house 1 2;chain 0 0 s;");
        x.keep(0);
        Check.type(x, "yard 5 5 1;house 0 0;chain 1 1 q;");
        Check.due("a fault", x.yard(), -10 - 31);
        int[] want = {2, 3, 3, 1, 1, 33};
        for (int what = 0; what < want.length; what++) {
            Check.due("count " + what + " after a fault", x.count(what), want[what]);
        }
        Check.due("cell 0 after a fault", x.cell(0), 2);
        Check.due("cell 5 after a fault", x.cell(5), 1);
        Check.due("the image stays", x.back(0), 1);
        Check.due("the same fault", x.yard(), -10 - 31);
    }
}
