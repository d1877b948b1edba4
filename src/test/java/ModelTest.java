import java.util.Random;

/** Random runs of calls, each answered by the class and by the model: the answers are the same. */
public final class ModelTest {
    private static final int RUNS = 500;
    /** An object answers 512 calls; what is begun below this number ends below that one. */
    private static final int CALLS = 380;

    private final Random random;
    private final BentYards x = new BentYards();
    private final Model m = new Model();
    private final String run;
    private int calls = 0;

    private ModelTest(int seed) {
        random = new Random(seed);
        run = "run " + seed + ": ";
    }

    public static void main(String[] args) {
        int runs = args.length > 0 ? Integer.parseInt(args[0]) : RUNS;
        int first = args.length > 1 ? Integer.parseInt(args[1]) : 0;
        for (int seed = first; seed < first + runs; seed++) {
            ModelTest test = new ModelTest(seed);
            while (test.calls < CALLS) {
                test.call();
            }
        }
        Check.end();
    }

    private int any(int from, int to) {
        if (random.nextInt(60) == 0) {
            int[] far = {Integer.MIN_VALUE, Integer.MAX_VALUE, from - 1, to + 1, -7, 1000};
            return far[random.nextInt(far.length)];
        }
        return from + random.nextInt(to - from + 1);
    }

    private int anyCell() {
        return any(0, Math.max(0, m.count(0) * m.count(1) - 1));
    }

    private int anyChain() {
        return any(0, Math.max(0, m.count(4) - (random.nextInt(10) == 0 ? 0 : 1)));
    }

    private void due(String call, long got, long want) {
        calls++;
        Check.due(run + call, got, want);
    }

    private void call() {
        switch (random.nextInt(30)) {
            case 0: case 1: tell(); break;
            case 2: typeAny(); break;
            case 3: case 4: callChain(); break;
            case 5: case 6: callJoint(); break;
            case 7: case 8: callWay(); break;
            case 9: callWays(); break;
            case 10: case 11: case 12: callMend(); break;
            case 13: callLines(); break;
            case 14: callHedges(); break;
            case 15: callGusts(); break;
            case 16: case 17: case 18: callBuild(); break;
            case 19: callRaze(); break;
            case 20: case 21: case 22: case 23: callStreet(); break;
            case 24: callClose(); break;
            case 25: case 26: callMark(); break;
            case 27: case 28: callImage(); break;
            default: lookAtAll(); break;
        }
    }

    private void typeAny() {
        long v = random.nextLong();
        int n = any(1, 8);
        due("type(" + v + ", " + n + ")", x.type(v, n), m.type(v, n));
    }

    private void tell() {
        if (random.nextInt(8) != 0) {
            due("clear()", x.clear(), m.clear());
        }
        String text = random.nextInt(4) == 0 ? broken(anyText()) : anyText();
        for (int i = 0; i < text.length(); i += 8) {
            String piece = text.substring(i, Math.min(i + 8, text.length()));
            long v = random.nextLong();
            for (int j = 0; j < piece.length(); j++) {
                v = v << 8 | piece.charAt(j);
            }
            due("type(" + v + ", " + piece.length() + ")", x.type(v, piece.length()), m.type(v, piece.length()));
        }
        due("yard() of '" + text + "'", x.yard(), m.yard());
        lookAtAll();
    }

    private String anyText() {
        StringBuilder text = new StringBuilder();
        int wide = 5;
        int high = 5;
        if (random.nextInt(4) != 0) {
            wide = 1 + random.nextInt(5);
            high = 1 + random.nextInt(5);
            text.append("yard ").append(wide).append(' ').append(high).append(' ');
            text.append(1 + random.nextInt(3)).append(';');
        }
        boolean[] isHouse = new boolean[25];
        for (int i = random.nextInt(7); i > 0; i--) {
            int px = random.nextInt(wide);
            int py = random.nextInt(high);
            isHouse[py * wide + px] = true;
            text.append("house ").append(px).append(' ').append(py).append(';');
        }
        for (int i = random.nextInt(5); i > 0; i--) {
            int px = random.nextInt(wide);
            int py = random.nextInt(high);
            String word = anyWord(px, py, wide, high, isHouse);
            if (!isHouse[py * wide + px] && !word.isEmpty()) {
                text.append("chain ").append(px).append(' ').append(py).append(' ').append(word).append(';');
            }
        }
        return text.toString();
    }

    private String anyWord(int px, int py, int wide, int high, boolean[] isHouse) {
        int[] dx = {0, 1, 0, -1};
        int[] dy = {-1, 0, 1, 0};
        String word = "";
        int length = 1 + random.nextInt(12);
        int last = random.nextInt(4);
        for (int tries = 0; tries < 60 && word.length() < length; tries++) {
            int d = random.nextInt(3) == 0 ? last : random.nextInt(4);
            int nx = px + dx[d];
            int ny = py + dy[d];
            if (nx >= 0 && ny >= 0 && nx < wide && ny < high && !isHouse[ny * wide + nx]) {
                word += "nesw".charAt(d);
                px = nx;
                py = ny;
                last = d;
            }
        }
        return word;
    }

    private String broken(String text) {
        String put = " ;0159nesw#yA\u00e9";
        StringBuilder s = new StringBuilder(text);
        for (int i = 1 + random.nextInt(2); i > 0 && s.length() > 0; i--) {
            int at = random.nextInt(s.length());
            char c = put.charAt(random.nextInt(put.length()));
            switch (random.nextInt(4)) {
                case 0: s.deleteCharAt(at); break;
                case 1: s.insert(at, c); break;
                case 2: s.setCharAt(at, c); break;
                default: s.setLength(at); break;
            }
        }
        return s.toString();
    }

    private void callChain() {
        int k = anyChain();
        int what = any(0, 3);
        int i = any(0, 12);
        due("chain(" + k + ", " + what + ")", x.chain(k, what), m.chain(k, what));
        due("step(" + k + ", " + i + ")", x.step(k, i), m.step(k, i));
        due("straight(" + k + ")", x.straight(k), m.straight(k));
    }

    private void callJoint() {
        for (int k = -1; k < 5; k++) {
            for (int l = -1; l < 5; l++) {
                due("joint(" + k + ", " + l + ")", x.joint(k, l), m.joint(k, l));
            }
        }
    }

    private void callWay() {
        int a = anyCell();
        int b = anyCell();
        int i = any(-1, 12);
        due("way(" + a + ", " + b + ", " + i + ")", x.way(a, b, i), m.way(a, b, i));
        int steps = Math.min(x.way(a, b, -1), 3);
        for (int j = -1; j < steps; j++) {
            due("way(" + a + ", " + b + ", " + j + ")", x.way(a, b, j), m.way(a, b, j));
        }
    }

    private void callWays() {
        int a = anyCell();
        int b = anyCell();
        int n = any(0, 20);
        due("ways(" + a + ", " + b + ", " + n + ")", x.ways(a, b, n), m.ways(a, b, n));
    }

    private void callMend() {
        int k = anyChain();
        int i = any(-1, 12);
        due("mend(" + k + ", " + i + ")", x.mend(k, i), m.mend(k, i));
    }

    private void callLines() {
        for (int what = -1; what <= 5; what++) {
            due("lines(" + what + ")", x.lines(what), m.lines(what));
        }
    }

    private void callHedges() {
        int i = any(-1, 2);
        due("hedges(" + i + ")", x.hedges(i), m.hedges(i));
    }

    private void callGusts() {
        int n = any(1, 99);
        due("gusts(" + n + ")", x.gusts(n), m.gusts(n));
        if (random.nextInt(3) == 0) {
            int v = random.nextInt();
            due("lot(" + v + ")", x.lot(v), m.lot(v));
        }
    }

    private void callBuild() {
        int c = anyCell();
        due("build(" + c + ")", x.build(c), m.build(c));
    }

    private void callRaze() {
        int c = anyCell();
        due("raze(" + c + ")", x.raze(c), m.raze(c));
    }

    private void callStreet() {
        int c = anyCell();
        if (random.nextInt(2) == 0 && m.count(4) > 0) {
            c = m.chain(random.nextInt(m.count(4)), random.nextInt(2));
        }
        int steps = 0;
        int length = random.nextInt(3) == 0 ? random.nextInt(11) : 1 + random.nextInt(3);
        for (int i = length; i > 0; i--) {
            steps = steps * 10 + (random.nextInt(40) == 0 ? random.nextInt(10) : 1 + random.nextInt(4));
        }
        due("street(" + c + ", " + steps + ")", x.street(c, steps), m.street(c, steps));
    }

    private void callClose() {
        due("close()", x.close(), m.close());
    }

    private void callMark() {
        int kind = any(0, 5);
        int k = anyChain();
        due("mark(" + kind + ", " + k + ")", x.mark(kind, k), m.mark(kind, k));
        due("trace()", x.trace(), m.trace());
    }

    private void callImage() {
        int image = any(0, 1);
        if (random.nextInt(2) == 0) {
            due("keep(" + image + ")", x.keep(image), m.keep(image));
        } else {
            due("back(" + image + ")", x.back(image), m.back(image));
            lookAtAll();
        }
    }

    private void lookAtAll() {
        for (int what = -1; what <= 6; what++) {
            due("count(" + what + ")", x.count(what), m.count(what));
        }
        for (int c = -1; c <= 25; c++) {
            due("cell(" + c + ")", x.cell(c), m.cell(c));
        }
        for (int k = 0; k < m.count(4); k++) {
            for (int i = 0; i <= m.chain(k, 2); i++) {
                due("step(" + k + ", " + i + ")", x.step(k, i), m.step(k, i));
            }
        }
        due("trace()", x.trace(), m.trace());
    }
}
