/** What every test here shares: comparing answers, typing texts, ending with the right exit code. */
final class Check {
    private static int wrong = 0;
    private static int asked = 0;

    private Check() {
    }

    static void due(String call, long got, long want) {
        asked++;
        if (got != want) {
            wrong++;
            System.out.println(call + " answered " + got + ", due is " + want);
        }
    }

    /** Types a text in pieces of at most 8 bytes, the highest byte first. */
    static int type(BentYards x, String text) {
        int answer = x.count(5);
        for (int i = 0; i < text.length(); i += 8) {
            String piece = text.substring(i, Math.min(i + 8, text.length()));
            long v = 0;
            for (int j = 0; j < piece.length(); j++) {
                v = v << 8 | piece.charAt(j);
            }
            answer = x.type(v, piece.length());
        }
        return answer;
    }

    /** A new object that has read a text. */
    static BentYards told(String text) {
        BentYards x = new BentYards();
        tell(x, text);
        return x;
    }

    static void tell(BentYards x, String text) {
        x.clear();
        type(x, text);
        int items = 0;
        for (int i = 0; i < text.length(); i++) {
            items += text.charAt(i) == ';' ? 1 : 0;
        }
        due("yard() of " + text, x.yard(), items);
    }

    static void fault(String text, int place) {
        BentYards x = new BentYards();
        type(x, text);
        due("yard() of '" + text + "'", x.yard(), -10 - place);
        due("bytes left of '" + text + "'", x.count(5), text.length());
    }

    /** Steps as letters, as way and mend answer them one by one. */
    static void row(String call, java.util.function.IntUnaryOperator answer, String want) {
        for (int i = 0; i < want.length(); i++) {
            due(call + " step " + i, answer.applyAsInt(i), "nesw".indexOf(want.charAt(i)));
        }
        due(call + " behind its last step", answer.applyAsInt(want.length()), -5);
        due(call + " far behind", answer.applyAsInt(Integer.MAX_VALUE), -5);
    }

    static void end() {
        System.out.println(asked + " answers, " + wrong + " wrong");
        if (wrong != 0 || asked == 0) {
            System.exit(1);
        }
    }
}
