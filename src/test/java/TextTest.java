/** Promises 1 to 4: a new object, type, clear, yard. */
public final class TextTest {
    public static void main(String[] args) {
        newObject();
        typing();
        typingIsRefusedWhole();
        clearing();
        clearingTheTextAlone();
        reading();
        everyYard();
        everyCellOfTheYard();
        fullText();
        emptyText();
        readingAnew();
        faultsOfTokens();
        faultsOfBytes();
        faultsOfNumbers();
        faultsOfItems();
        faultsOfChains();
        faultsOfSteps();
        faultsAtTheEnd();
        nothingChangesByAFault();
        Check.end();
    }

    private static void newObject() {
        BentYards x = new BentYards();
        int[] want = {5, 5, 1, 0, 0, 0};
        for (int what = 0; what < want.length; what++) {
            Check.due("new count " + what, x.count(what), want[what]);
        }
        for (int c = 0; c < 25; c++) {
            Check.due("new cell " + c, x.cell(c), 0);
        }
        Check.due("new trace", x.trace(), 0);
        Check.due("new back(0)", x.back(0), BentYards.STATE);
        Check.due("new back(1)", x.back(1), BentYards.STATE);
        Check.due("new lot", x.lot(7), 1);
    }

    private static void typing() {
        BentYards x = new BentYards();
        Check.due("type n 0", x.type('a', 0), BentYards.BAD);
        Check.due("type n -1", x.type('a', -1), BentYards.BAD);
        Check.due("type n 9", x.type('a', 9), BentYards.BAD);
        Check.due("type n least", x.type('a', Integer.MIN_VALUE), BentYards.BAD);
        Check.due("type n most", x.type('a', Integer.MAX_VALUE), BentYards.BAD);
        Check.due("nothing typed", x.count(5), 0);
        // the bytes above the lowest n don't come
        long highBytes = 0x7171717171717120L;
        Check.due("type one of eight", x.type(highBytes, 1), 1);
        Check.due("a blank alone", x.yard(), 0);
        for (int i = 1; i <= 25; i++) {
            Check.due("type eight blanks", x.type(0x2020202020202020L, 8), 8 * i);
        }
        Check.due("type the 201st", x.type(' ', 1), BentYards.FULL);
        Check.due("BAD is ahead of FULL", x.type(' ', 9), BentYards.BAD);
        Check.due("still 200", x.count(5), 200);
        Check.due("200 blanks", x.yard(), 0);
        for (int i = 1; i <= 24; i++) {
            x.type(0x2020202020202020L, 8);
        }
        Check.due("192 and 5", x.type(0x2020202020L, 5), 197);
        Check.due("197 and 4", x.type(0x20202020L, 4), BentYards.FULL);
        Check.due("197 and 3", x.type(0x202020L, 3), 200);
    }

    /** "FULL" and "Refused, and nothing changes": not one of the bytes comes. */
    private static void typingIsRefusedWhole() {
        BentYards x = new BentYards();
        Check.type(x, "house 1 1;" + " ".repeat(184));
        Check.due("194 bytes", x.count(5), 194);
        Check.due("194 and 7", x.type(0x23232323232323L, 7), BentYards.FULL);
        Check.due("194 and 8", x.type(0x2323232323232323L, 8), BentYards.FULL);
        Check.due("n 0 at 194", x.type('#', 0), BentYards.BAD);
        Check.due("n 9 at 194", x.type('#', 9), BentYards.BAD);
        Check.due("still 194", x.count(5), 194);
        Check.due("194 and 6", x.type(0x202020202020L, 6), 200);
        for (int n = 1; n <= 8; n++) {
            Check.due("200 and " + n, x.type('#', n), BentYards.FULL);
        }
        Check.due("none of the refused bytes came", x.yard(), 1);
        Check.due("empty then", x.type('h', 1), 1);
    }

    private static void clearing() {
        BentYards x = new BentYards();
        Check.due("clear nothing", x.clear(), 0);
        x.type(-1L, 8);
        Check.due("clear eight", x.clear(), 8);
        Check.due("clear again", x.clear(), 0);
        Check.due("count after clear", x.count(5), 0);
        Check.due("yard after clear", x.yard(), 0);
    }

    /** "THE TEXT is empty": nothing else goes, and no byte of it comes back. */
    private static void clearingTheTextAlone() {
        BentYards x = Check.told("yard 3 2 2;house 2 1;chain 0 0 e;");
        x.keep(0);
        x.lot(8);
        x.mark(0, 0);
        Check.type(x, "yard 1 1 1;house 0 0;");
        Check.due("clear a text", x.clear(), 21);
        int[] want = {3, 2, 2, 1, 1, 0};
        for (int what = 0; what < want.length; what++) {
            Check.due("count " + what + " after clear", x.count(what), want[what]);
        }
        Check.due("the trace after clear", x.trace(), 1);
        Check.due("the lot after clear", x.lot(0), 8);
        Check.due("the image after clear", x.back(0), 1);
        Check.type(x, "house");
        Check.due("the old bytes behind the new ones are gone", x.yard(), -10 - 5);
        Check.due("clear after a fault", x.clear(), 5);
        Check.type(x, " ".repeat(200));
        Check.due("clear a full text", x.clear(), 200);
        Check.due("there is room again", x.type(' ', 1), 1);
    }

    private static void reading() {
        BentYards x = Check.told("yard 4 3 2;house 1 1;house 3 2;house 1 1;chain 0 0 ewe;");
        int[] want = {4, 3, 2, 2, 1, 0};
        for (int what = 0; what < want.length; what++) {
            Check.due("read count " + what, x.count(what), want[what]);
        }
        Check.due("house at 1 1", x.cell(5), 1);
        Check.due("house at 3 2", x.cell(11), 1);
        Check.due("chain at 0 0", x.cell(0), 2);
        Check.due("cell of 4 by 3", x.cell(12), BentYards.BAD);
        // blanks may stand anywhere between tokens, and need not where a token ends by itself
        Check.told("   yard   1  5 3 ;  chain 0 4 n  ;  ");
        Check.told("yard5 5 1;house4 4;chain0 0e;");
        Check.told("chain 0 0 e;chain 0 0 e;chain 0 0 e;chain 0 0 e;");
        Check.told("chain 0 0 ewewewewewew;");
        Check.told("house 4 4;house 0 4;house 4 0;");
        Check.told("");
    }

    /** "WIDE (1 .. 5) by HIGH (1 .. 5)", "LIMIT: 1 .. 3": each of them, and none beside them. */
    private static void everyYard() {
        for (int w = 0; w <= 6; w++) {
            for (int h = 0; h <= 6; h++) {
                for (int l = 0; l <= 4; l++) {
                    String text = "yard " + w + " " + h + " " + l + ";";
                    int place = w < 1 || w > 5 ? 5 : h < 1 || h > 5 ? 7 : l < 1 || l > 3 ? 9 : -1;
                    if (place >= 0) {
                        Check.fault(text, place);
                        continue;
                    }
                    BentYards x = Check.told(text);
                    Check.due("wide of " + text, x.count(0), w);
                    Check.due("high of " + text, x.count(1), h);
                    Check.due("limit of " + text, x.count(2), l);
                    Check.due("its last cell, " + text, x.cell(w * h - 1), 0);
                    Check.due("behind its last cell, " + text, x.cell(w * h), BentYards.BAD);
                }
            }
        }
    }

    /** "numbered row by row (WIDE times y and x; y down)". */
    private static void everyCellOfTheYard() {
        for (int w = 1; w <= 5; w++) {
            for (int h = 1; h <= 5; h++) {
                for (int c = 0; c < w * h; c++) {
                    BentYards x = Check.told("yard " + w + " " + h + " 1;house " + c % w + " " + c / w + ";");
                    Check.due("house " + c + " of " + w + " by " + h, x.cell(c), 1);
                    Check.due("one house", x.count(3), 1);
                }
                String yard = "yard " + w + " " + h + " 1;";
                Check.fault(yard + "house " + w + " 0;", 17);
                Check.fault(yard + "house 0 " + h + ";", 19);
                Check.fault(yard + "chain " + w + " 0 n;", 17);
                Check.fault(yard + "chain 0 " + h + " n;", 19);
            }
        }
    }

    /** "a text (200 bytes at most)": 200 are read to the last, and a fault may stand at each place. */
    private static void fullText() {
        String houses = "house 0 0;".repeat(19);
        BentYards x = new BentYards();
        Check.due("200 bytes", Check.type(x, houses + "house 4 4;"), 200);
        Check.due("twenty items", x.yard(), 20);
        Check.due("told again: well", x.count(3), 2);
        Check.due("the last one is told", x.cell(24), 1);
        Check.fault(houses + "house 4 4 ", 200);
        Check.fault(houses + "house  4 4", 200);
        Check.fault(houses + "house 4 44", 198);
        Check.fault(houses + "house 4 4#", 199);
        Check.fault(houses + "     house", 200);
        Check.fault(houses + "houseeeeee", 190);
        Check.fault("e".repeat(200), 0);
        Check.fault("0".repeat(200), 0);
        Check.fault("house " + "9".repeat(194), 6);
        Check.fault("chain 0 0 " + "ew".repeat(95), 10);
        Check.fault(" ".repeat(199) + ";", 199);
        Check.fault("house" + " ".repeat(195), 200);
    }

    /** "THE TEXT tells all": an empty one tells of a yard as it is at first. */
    private static void emptyText() {
        BentYards x = Check.told("yard 2 3 3;house 1 2;chain 0 0 s;");
        x.keep(1);
        Check.due("an empty text", x.yard(), 0);
        int[] want = {5, 5, 1, 0, 0, 0};
        for (int what = 0; what < want.length; what++) {
            Check.due("count " + what + " of an empty text", x.count(what), want[what]);
        }
        Check.due("its images are gone", x.back(1), BentYards.STATE);
        BentYards blanks = Check.told("yard 2 3 3;house 1 2;chain 0 0 s;");
        Check.tell(blanks, "   ");
        Check.due("wide of blanks", blanks.count(0), 5);
        Check.due("houses of blanks", blanks.count(3), 0);
    }

    private static void readingAnew() {
        BentYards x = Check.told("yard 2 3 3;house 1 2;chain 0 0 s;");
        x.lot(99);
        x.keep(0);
        x.keep(1);
        x.mark(1, 0);
        Check.tell(x, "house 4 4;");
        int[] want = {5, 5, 1, 1, 0, 0};
        for (int what = 0; what < want.length; what++) {
            Check.due("anew count " + what, x.count(what), want[what]);
        }
        Check.due("image 0 is gone", x.back(0), BentYards.STATE);
        Check.due("image 1 is gone", x.back(1), BentYards.STATE);
        Check.due("the trace stays", x.trace(), 11);
        Check.due("the lot stays", x.lot(0), 99);
    }

    private static void faultsOfTokens() {
        Check.fault("Yard 5 5 1;", 0);
        Check.fault("yarD 5 5 1;", 0);
        Check.fault("yard 5 5 1;#", 11);
        Check.fault("yard 5\t5 1;", 6);
        Check.fault("yard -5 5 1;", 5);
        Check.fault("house 0 100;", 8);
        Check.fault("house 0 99;", 8);
        Check.fault("house 4294967296 0;", 6);
        Check.fault("house 00 0;", 6);
        Check.fault("house 01 0;", 6);
        Check.fault("house 0 04;", 8);
        Check.fault("houses 0 0;", 0);
        Check.fault("yarda 5 5 1;", 0);
        Check.fault("yardz 5 5 1;", 0);
        Check.fault("yard{ 5 5 1;", 4);
        Check.fault("yard` 5 5 1;", 4);
        Check.fault("yard 1/ 5 1;", 6);
        Check.fault("yard 1: 5 1;", 6);
        Check.fault("hous 0 0;", 0);
        Check.fault("bouse 0 0;", 0);
        Check.fault("xard 5 5 1;", 0);
        Check.fault("dhain 0 0 e;", 0);
        Check.fault("chaim 0 0 e;", 0);
        Check.fault("nesw", 0);
        Check.fault("yardhouse 0 0;", 0);
        Check.fault("  housechain 0 0;", 2);
        Check.fault("7", 0);
        Check.fault(" ;", 1);
        Check.fault("house 0 0;;", 10);
        Check.fault("\u0000", 0);
        Check.fault("   \u00ff", 3);
    }

    /** "of a byte that begins none": all but blank, ; , letters and figures, wherever it stands. */
    private static void faultsOfBytes() {
        for (int b = 0; b < 256; b++) {
            char c = (char) b;
            boolean isLetter = c >= 'a' && c <= 'z';
            boolean isFigure = c >= '0' && c <= '9';
            String name = "byte " + b;
            BentYards first = new BentYards();
            Check.type(first, "" + c);
            Check.due(name + " first", first.yard(), c == ' ' ? 0 : -10);
            BentYards behind = new BentYards();
            Check.type(behind, "house 0 0;" + c);
            Check.due(name + " behind an item", behind.yard(), c == ' ' ? 1 : -20);
            BentYards inWord = new BentYards();
            Check.type(inWord, "yard" + c + "5 5 1;");
            // a figure makes a number above 9 of it, a letter a word that is none of these
            int want = c == ' ' ? 1 : isLetter ? -10 : -14;
            Check.due(name + " behind a word", inWord.yard(), want);
            BentYards inNumber = new BentYards();
            Check.type(inNumber, "house 0" + c + " 0;");
            Check.due(name + " behind a number", inNumber.yard(), c == ' ' ? 1 : isFigure ? -16 : -17);
            BentYards asEnd = new BentYards();
            Check.type(asEnd, "house 0 0" + c);
            want = c == ';' ? 1 : c == ' ' ? -20 : isFigure ? -18 : -19;
            Check.due(name + " as an item's end", asEnd.yard(), want);
            BentYards asStep = new BentYards();
            Check.type(asStep, "chain 2 2 " + c + ";");
            want = "nesw".indexOf(c) >= 0 ? 1 : c == ' ' ? -21 : -20;
            Check.due(name + " as a step", asStep.yard(), want);
        }
    }

    /** "a NUMBER above 99 or with a 0 ahead of others, that TOKEN's", "a NUMBER beyond what it may be". */
    private static void faultsOfNumbers() {
        for (int n = 5; n <= 120; n++) {
            Check.fault("house " + n + " 0;", 6);
            Check.fault("house 0 " + n + ";", 8);
            Check.fault("chain " + n + " 0 e;", 6);
        }
        for (int n = 0; n <= 9; n++) {
            Check.fault("house 0" + n + " 0;", 6);
            Check.fault("house 0 0" + n + ";", 8);
            Check.fault("yard 0" + n + " 5 1;", 5);
            Check.fault("yard 5 0" + n + " 1;", 7);
            Check.fault("yard 5 5 0" + n + ";", 9);
        }
        // numbers that would wrap around to 1
        Check.fault("yard 4294967297 5 1;", 5);
        Check.fault("yard 18446744073709551617 5 1;", 5);
        Check.fault("yard 5 257 1;", 7);
        Check.fault("yard 5 5 65537;", 9);
        Check.fault("house 0 0 100", 10);
        Check.fault("100", 0);
        Check.fault("house 0 0;00", 10);
    }

    private static void faultsOfItems() {
        Check.fault("yard 0 5 1;", 5);
        Check.fault("yard 6 5 1;", 5);
        Check.fault("yard 5 0 1;", 7);
        Check.fault("yard 5 6 1;", 7);
        Check.fault("yard 5 5 0;", 9);
        Check.fault("yard 5 5 4;", 9);
        Check.fault("yard 5 5;", 8);
        Check.fault("yard 5 5 1 1;", 11);
        Check.fault("yard 5 5 1 house 0 0;", 11);
        Check.fault("yard 5 5 1;yard 5 5 1;", 11);
        Check.fault("house 0 0; yard 5 5 1;", 11);
        Check.fault("chain 0 0 e; yard 5 5 1;", 13);
        Check.fault("yard 3 2 1;house 3 0;", 17);
        Check.fault("yard 3 2 1;house 0 2;", 19);
        Check.fault("house 0;", 7);
        Check.fault("house e 0;", 6);
        Check.fault("house 0 0 e;", 10);
        Check.fault("house 0 0 0;", 10);
        Check.fault("chain 0 0 e;house 4 4;", 12);
    }

    private static void faultsOfChains() {
        Check.fault("yard 3 2 1;chain 3 0 e;", 17);
        Check.fault("yard 3 2 1;chain 0 2 e;", 19);
        Check.fault("house 2 3;chain 2 3 n;", 18);
        Check.fault("house 2 3;chain 2 2 s;", 20);
        Check.fault("chain 0 0 n;", 10);
        Check.fault("chain 0 0 w;", 10);
        Check.fault("chain 4 4 e;", 10);
        Check.fault("chain 4 4 s;", 10);
        Check.fault("chain 4 0 se;", 10);
        Check.fault("chain 0 0 ewewewewewewe;", 10);
        Check.fault("chain 0 0 eswx;", 10);
        Check.fault("chain 0 0 house;", 10);
        Check.fault("chain 0 0 1;", 10);
        Check.fault("chain 0 0;", 9);
        Check.fault("chain 0 0 e w;", 12);
        Check.fault("chain 0 0 e;chain 0 0 e;chain 0 0 e;chain 0 0 e;chain 9", 48);
    }

    /** "a word of STEPS that has another letter, is too long, or leads out or onto a HOUSE". */
    private static void faultsOfSteps() {
        String steps = "ewewewewewew";
        for (int n = 1; n <= 12; n++) {
            BentYards x = Check.told("chain 0 0 " + steps.substring(0, n) + ";");
            Check.due("steps of a chain of " + n, x.chain(0, 2), n);
        }
        Check.fault("chain 0 0 " + steps + "e;", 10);
        Check.fault("chain 0 0 ewewewewewewz;", 10);
        for (char c = 'a'; c <= 'z'; c++) {
            if ("nesw".indexOf(c) < 0) {
                Check.fault("chain 2 2 " + c + "n;", 10);
                Check.fault("chain 2 2 n" + c + ";", 10);
            }
        }
        // out at each side, at the last step of several
        Check.fault("yard 2 3 1;chain 1 2 nnn;", 21);
        Check.fault("yard 3 2 1;chain 1 1 nee;", 21);
        Check.fault("yard 2 3 1;chain 1 0 sss;", 21);
        Check.fault("yard 3 2 1;chain 1 1 nww;", 21);
        // onto a house, at the first, a middle and the last step
        Check.fault("house 1 1;chain 1 0 sew;", 20);
        Check.fault("house 1 1;chain 0 0 esw;", 20);
        Check.fault("house 1 1;chain 2 2 nnws;", 20);
        Check.fault("yard 5 5 1;chain;", 16);
        Check.fault("chain 2 2 NE;", 10);
        Check.fault("chain 2 2 nE;", 11);
        Check.fault("chain 2 2 n 1;", 12);
        Check.fault("chain 2 2 n house;", 12);
    }

    private static void faultsAtTheEnd() {
        Check.fault("house", 5);
        Check.fault("house  ", 7);
        Check.fault("house 0", 7);
        Check.fault("house 0 0", 9);
        Check.fault("yard 5 5 1", 10);
        Check.fault("yard 5 5 1 ", 11);
        Check.fault("chain 0 0", 9);
        Check.fault("chain 0 0 e", 11);
        Check.fault("house 0 0;chain", 15);
        // what can't stand there is told ahead of the early end
        Check.fault("yard 6", 5);
        Check.fault("chain 0 0 n", 10);
        Check.fault("hous", 0);
    }

    private static void nothingChangesByAFault() {
        BentYards x = Check.told("yard 2 3 3;house 1 2;chain 0 0 s;");
        x.keep(0);
        Check.type(x, "yard 5 5 1;house 0 0;chain 1 1 q;");
        Check.due("a fault", x.yard(), -10 - 31);
        int[] want = {2, 3, 3, 1, 1, 33};
        for (int what = 0; what < want.length; what++) {
            Check.due("count " + what + " after a fault", x.count(what), want[what]);
        }
        Check.due("cell 0 after a fault", x.cell(0), 2);
        Check.due("cell 5 after a fault", x.cell(5), 1);
        Check.due("the image stays", x.back(0), 1);
        Check.due("the same fault", x.yard(), -10 - 31);
    }
}
