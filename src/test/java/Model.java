import java.util.ArrayList;
import java.util.Arrays;
import java.util.List;
import java.util.Map;
import java.util.TreeMap;
import java.util.TreeSet;
import java.util.regex.Matcher;
import java.util.regex.Pattern;

/** The document once more, with texts, lists and maps: slow and plain, to compare the class with. */
final class Model {
    private static final String LETTERS = "nesw";

    /** A chain: "x y word". */
    private record Told(int x, int y, String word) {
    }

    private record Line(List<Integer> cells, boolean isRow) {
    }

    private record Image(TreeSet<Integer> houses, List<Told> chains, int lot) {
    }

    private int wide = 5;
    private int high = 5;
    private int limit = 1;
    private TreeSet<Integer> houses = new TreeSet<>();
    private List<Told> chains = new ArrayList<>();
    private int lot = 1;
    private long trace = 0;
    private String text = "";
    private final Image[] images = new Image[2];

    // ---- the yard

    int type(long v, int n) {
        if (n < 1 || n > 8) {
            return -1;
        }
        if (text.length() + n > 200) {
            return -3;
        }
        String more = "";
        for (int i = 0; i < n; i++) {
            more = (char) (v >> 8 * i & 255) + more;
        }
        text += more;
        return text.length();
    }

    int clear() {
        int had = text.length();
        text = "";
        return had;
    }

    private static final class Fault extends RuntimeException {
        private static final long serialVersionUID = 1;
        final int place;

        Fault(int place) {
            this.place = place;
        }
    }

    private record Token(String word, int place) {
    }

    private static List<Token> tokens(String text) {
        List<Token> all = new ArrayList<>();
        Matcher m = Pattern.compile("[a-z]+|[0-9]+|[^ ]", Pattern.DOTALL).matcher(text);
        while (m.find()) {
            all.add(new Token(m.group(), m.start()));
        }
        all.add(new Token("END", text.length()));
        return all;
    }

    private static int numberOf(Token t, int low, int high) {
        if (!t.word.matches("0|[1-9][0-9]?") || Integer.parseInt(t.word) < low || Integer.parseInt(t.word) > high) {
            throw new Fault(t.place);
        }
        return Integer.parseInt(t.word);
    }

    int yard() {
        Model fresh = new Model();
        int items = 0;
        try {
            List<Token> all = tokens(text);
            int i = 0;
            while (!all.get(i).word.equals("END")) {
                i = fresh.item(all, i, items == 0);
                if (!all.get(i).word.equals(";")) {
                    throw new Fault(all.get(i).place);
                }
                i++;
                items++;
            }
        } catch (Fault f) {
            return -10 - f.place;
        }
        wide = fresh.wide;
        high = fresh.high;
        limit = fresh.limit;
        houses = fresh.houses;
        chains = fresh.chains;
        Arrays.fill(images, null);
        text = "";
        return items;
    }

    /** Where the token stands that must be the ; of the item. */
    private int item(List<Token> all, int i, boolean isFirst) {
        Token t = all.get(i);
        if (t.word.equals("yard") && isFirst) {
            wide = numberOf(all.get(i + 1), 1, 5);
            high = numberOf(all.get(i + 2), 1, 5);
            limit = numberOf(all.get(i + 3), 1, 3);
            return i + 4;
        }
        boolean isHouse = t.word.equals("house") && chains.isEmpty();
        boolean isChain = t.word.equals("chain") && chains.size() < 4;
        if (!isHouse && !isChain) {
            throw new Fault(t.place);
        }
        int x = numberOf(all.get(i + 1), 0, wide - 1);
        int y = numberOf(all.get(i + 2), 0, high - 1);
        if (isHouse) {
            houses.add(y * wide + x);
            return i + 3;
        }
        if (houses.contains(y * wide + x)) {
            throw new Fault(all.get(i + 2).place);
        }
        Token word = all.get(i + 3);
        Told told = new Told(x, y, word.word);
        if (!word.word.matches("[nesw]{1,12}") || cellsOf(told) == null) {
            throw new Fault(word.place);
        }
        chains.add(told);
        return i + 4;
    }

    /** All cells of a chain, the first one and that behind each step; null if it leads out or onto a house. */
    private List<Integer> cellsOf(Told told) {
        List<Integer> cells = new ArrayList<>();
        int x = told.x;
        int y = told.y;
        cells.add(y * wide + x);
        for (char c : told.word.toCharArray()) {
            y += c == 'n' ? -1 : c == 's' ? 1 : 0;
            x += c == 'w' ? -1 : c == 'e' ? 1 : 0;
            if (x < 0 || y < 0 || x >= wide || y >= high || houses.contains(y * wide + x)) {
                return null;
            }
            cells.add(y * wide + x);
        }
        return cells;
    }

    private boolean isCell(int c) {
        return c >= 0 && c < wide * high;
    }

    private boolean isChain(int k) {
        return k >= 0 && k < chains.size();
    }

    int cell(int c) {
        if (!isCell(c)) {
            return -1;
        }
        if (houses.contains(c)) {
            return 1;
        }
        for (Told told : chains) {
            if (cellsOf(told).contains(c)) {
                return 2;
            }
        }
        return 0;
    }

    private int lastOf(Told told) {
        List<Integer> cells = cellsOf(told);
        return cells.get(cells.size() - 1);
    }

    private static int longestRun(String word) {
        int longest = 0;
        for (char c : LETTERS.toCharArray()) {
            for (int n = 1; n <= word.length(); n++) {
                if (word.contains(String.valueOf(c).repeat(n))) {
                    longest = Math.max(longest, n);
                }
            }
        }
        return longest;
    }

    int chain(int k, int what) {
        if (!isChain(k) || what < 0 || what > 3) {
            return -1;
        }
        Told told = chains.get(k);
        int[] all = {told.y * wide + told.x, lastOf(told), told.word.length(), longestRun(told.word)};
        return all[what];
    }

    int step(int k, int i) {
        if (!isChain(k) || i < 0) {
            return -1;
        }
        String word = chains.get(k).word;
        return i < word.length() ? LETTERS.indexOf(word.charAt(i)) : -5;
    }

    // ---- what is straight

    private int straightOf(String word) {
        for (int i = 0; i < word.length(); i++) {
            if (longestRun(word.substring(0, i + 1)) > limit) {
                return i;
            }
        }
        return -9;
    }

    int straight(int k) {
        return isChain(k) ? straightOf(chains.get(k).word) : -1;
    }

    private boolean join(Told one, Told two) {
        String a = one.word;
        String b = two.word;
        if (lastOf(one) != two.y * wide + two.x || a.charAt(a.length() - 1) != b.charAt(0)) {
            return false;
        }
        String lastRun = a.replaceAll(".*?((.)\\2*)$", "$1");
        String firstRun = b.replaceAll("^((.)\\2*).*$", "$1");
        return lastRun.length() + firstRun.length() > limit;
    }

    int joint(int k, int l) {
        return isChain(k) && isChain(l) ? join(chains.get(k), chains.get(l)) ? 1 : 0 : -1;
    }

    private boolean isFree(int c) {
        return isCell(c) && !houses.contains(c);
    }

    private Told from(int c, String word) {
        return new Told(c % wide, c / wide, word);
    }

    /** A cell and the last steps: all that says how a row may go on. */
    private String endOf(int a, String word) {
        return lastOf(from(a, word)) + " " + word.substring(Math.max(0, word.length() - limit));
    }

    /** The first row of the fewest steps; null. */
    private String wayOf(int a, int b) {
        TreeSet<String> rows = new TreeSet<>(Model::compareRows);
        rows.add("");
        for (int n = 0; n <= 60; n++) {
            Map<String, String> first = new TreeMap<>();
            for (String word : rows) {
                if (lastOf(from(a, word)) == b) {
                    return word;
                }
                first.putIfAbsent(endOf(a, word), word);
            }
            rows.clear();
            for (String word : first.values()) {
                rows.addAll(longer(a, word));
            }
        }
        return null;
    }

    private List<String> longer(int a, String word) {
        List<String> all = new ArrayList<>();
        for (char c : LETTERS.toCharArray()) {
            String more = word + c;
            String end = more.substring(Math.max(0, more.length() - limit - 1));
            if (longestRun(end) <= limit && cellsOf(from(a, more)) != null) {
                all.add(more);
            }
        }
        return all;
    }

    private static int compareRows(String a, String b) {
        for (int i = 0; i < Math.min(a.length(), b.length()); i++) {
            int d = LETTERS.indexOf(a.charAt(i)) - LETTERS.indexOf(b.charAt(i));
            if (d != 0) {
                return d;
            }
        }
        return a.length() - b.length();
    }

    private static int told(String row, int answer, int i) {
        if (row == null) {
            return -9;
        }
        return i == -1 ? answer : i < row.length() ? LETTERS.indexOf(row.charAt(i)) : -5;
    }

    int way(int a, int b, int i) {
        if (!isFree(a) || !isFree(b) || i < -1) {
            return -1;
        }
        String row = wayOf(a, b);
        return told(row, row == null ? -9 : row.length(), i);
    }

    long ways(int a, int b, int n) {
        if (!isFree(a) || !isFree(b) || n < 0 || n > 20) {
            return -1;
        }
        // rows with the same end go on alike: one of them stands for all
        Map<String, Long> numbers = new TreeMap<>();
        Map<String, String> one = new TreeMap<>();
        numbers.put(endOf(a, ""), 1L);
        one.put(endOf(a, ""), "");
        for (int i = 0; i < n; i++) {
            Map<String, Long> moreNumbers = new TreeMap<>();
            Map<String, String> moreOnes = new TreeMap<>();
            for (String end : numbers.keySet()) {
                for (String word : longer(a, one.get(end))) {
                    moreNumbers.merge(endOf(a, word), numbers.get(end), Long::sum);
                    moreOnes.put(endOf(a, word), word);
                }
            }
            numbers = moreNumbers;
            one = moreOnes;
        }
        long sum = 0;
        for (String end : numbers.keySet()) {
            sum += end.startsWith(b + " ") ? numbers.get(end) : 0;
        }
        return sum;
    }

    private static int differ(String a, String b) {
        int n = 0;
        for (int i = 0; i < Math.min(a.length(), b.length()); i++) {
            n += a.charAt(i) == b.charAt(i) ? 0 : 1;
        }
        return n;
    }

    int mend(int k, int i) {
        if (!isChain(k) || i < -1) {
            return -1;
        }
        Told told = chains.get(k);
        int a = told.y * wide + told.x;
        Map<String, String> best = new TreeMap<>();
        best.put("", "");
        for (int n = 0; n < told.word.length(); n++) {
            Map<String, String> more = new TreeMap<>();
            for (String word : best.values()) {
                for (String next : longer(a, word)) {
                    more.merge(endOf(a, next), next, (p, q) -> better(told.word, p, q));
                }
            }
            best = more;
        }
        String row = null;
        for (String word : best.values()) {
            if (lastOf(from(a, word)) == lastOf(told)) {
                row = row == null ? word : better(told.word, row, word);
            }
        }
        return told(row, row == null ? -9 : differ(row, told.word), i);
    }

    private static String better(String word, String p, String q) {
        int d = differ(p, word) - differ(q, word);
        return d < 0 || d == 0 && compareRows(p, q) <= 0 ? p : q;
    }

    // ---- the wind

    private List<Line> linesWithout(List<Integer> hedges) {
        List<Line> all = new ArrayList<>();
        for (int y = 0; y < high; y++) {
            List<Integer> row = new ArrayList<>();
            for (int x = 0; x < wide; x++) {
                row.add(y * wide + x);
            }
            addLines(all, row, hedges, true);
        }
        for (int x = 0; x < wide; x++) {
            List<Integer> column = new ArrayList<>();
            for (int y = 0; y < high; y++) {
                column.add(y * wide + x);
            }
            addLines(all, column, hedges, false);
        }
        return all;
    }

    private void addLines(List<Line> all, List<Integer> cells, List<Integer> hedges, boolean isRow) {
        List<Integer> line = new ArrayList<>();
        for (int c : cells) {
            if (cell(c) == 0 && !hedges.contains(c)) {
                line.add(c);
            } else if (!line.isEmpty()) {
                all.add(new Line(line, isRow));
                line = new ArrayList<>();
            }
        }
        if (!line.isEmpty()) {
            all.add(new Line(line, isRow));
        }
    }

    private int harmOf(Line line) {
        return line.cells.size() > limit ? line.cells.size() - limit : 0;
    }

    private int harmOf(List<Line> lines) {
        return lines.stream().mapToInt(this::harmOf).sum();
    }

    int lines(int what) {
        if (what < 0 || what > 4) {
            return -1;
        }
        List<Line> all = linesWithout(List.of());
        if (what < 2) {
            return what == 0 ? all.size() : harmOf(all);
        }
        for (int n = 5; n > 0; n--) {
            for (Line line : all) {
                if (line.cells.size() == n) {
                    return what == 2 ? n : what == 3 ? line.cells.get(0) : line.isRow ? 0 : 1;
                }
            }
        }
        return -9;
    }

    int hedges(int i) {
        if (i < -1 || i > 2) {
            return -1;
        }
        List<List<Integer>> sets = List.of(List.of());
        for (int size = 0; size <= 3; size++) {
            List<List<Integer>> more = new ArrayList<>();
            for (List<Integer> set : sets) {
                if (harmOf(linesWithout(set)) == 0) {
                    return i == -1 ? size : i < size ? set.get(i) : -5;
                }
                for (int c = set.isEmpty() ? 0 : set.get(size - 1) + 1; c < wide * high; c++) {
                    if (cell(c) == 0) {
                        List<Integer> longer = new ArrayList<>(set);
                        longer.add(c);
                        more.add(longer);
                    }
                }
            }
            sets = more;
        }
        return -9;
    }

    int gusts(int n) {
        if (n < 1 || n > 99) {
            return -1;
        }
        List<Line> all = linesWithout(List.of());
        int sum = 0;
        for (int i = 0; i < n && !all.isEmpty(); i++) {
            lot = (int) (lot * 1103515245L + 12345L);
            long upper = (lot & 0xffffffffL) / 65536;
            sum += harmOf(all.get((int) (upper % all.size())));
        }
        return sum;
    }

    int lot(int v) {
        int was = lot;
        lot = v;
        return was;
    }

    // ---- houses, streets

    int build(int c) {
        if (!isCell(c)) {
            return -1;
        }
        if (cell(c) != 0) {
            return -2;
        }
        houses.add(c);
        return houses.size();
    }

    int raze(int c) {
        if (!isCell(c)) {
            return -1;
        }
        return houses.remove(c) ? houses.size() : -2;
    }

    int street(int c, int steps) {
        String figures = String.valueOf(steps);
        if (!isFree(c) || !figures.matches("[1-4]{1,9}")) {
            return -1;
        }
        Told told = from(c, figures.replace('1', 'n').replace('2', 'e').replace('3', 's').replace('4', 'w'));
        if (cellsOf(told) == null) {
            return -1;
        }
        boolean isRefused = straightOf(told.word) != -9;
        for (Told other : chains) {
            isRefused |= join(told, other) || join(other, told);
        }
        if (isRefused) {
            return -2;
        }
        if (chains.size() == 4) {
            return -3;
        }
        chains.add(told);
        return chains.size();
    }

    int close() {
        if (chains.isEmpty()) {
            return -2;
        }
        chains.remove(chains.size() - 1);
        return chains.size();
    }

    // ---- kinds, images

    private class ChainKind {
        int of(int k) {
            trace += 1;
            return chains.get(k).word.length();
        }
    }

    private class WallKind extends ChainKind {
        @Override
        int of(int k) {
            trace += 10;
            return super.of(k) * 2;
        }
    }

    private class WayKind extends ChainKind {
        @Override
        int of(int k) {
            trace += 100;
            return super.of(k) - longestRun(chains.get(k).word);
        }
    }

    private class DoorKind extends WallKind {
        @Override
        int of(int k) {
            trace += 1000;
            return super.of(k) + k;
        }
    }

    private class GlanceKind extends WayKind {
        @Override
        int of(int k) {
            trace += 10000;
            String row = wayOf(chain(k, 0), chain(k, 1));
            return super.of(k) + (row == null ? 0 : row.length());
        }
    }

    private class RopeKind extends ChainKind {
        @Override
        int of(int k) {
            trace += 100000;
            return super.of(k) + houses.size();
        }
    }

    int mark(int kind, int k) {
        ChainKind[] kinds = {new ChainKind(), new WallKind(), new WayKind(), new DoorKind(), new GlanceKind(),
            new RopeKind()};
        return kind >= 0 && kind < 6 && isChain(k) ? kinds[kind].of(k) : -1000000;
    }

    int keep(int image) {
        if (image != 0 && image != 1) {
            return -1;
        }
        images[image] = new Image(new TreeSet<>(houses), new ArrayList<>(chains), lot);
        return chains.size();
    }

    int back(int image) {
        if (image != 0 && image != 1) {
            return -1;
        }
        if (images[image] == null) {
            return -2;
        }
        houses = new TreeSet<>(images[image].houses);
        chains = new ArrayList<>(images[image].chains);
        lot = images[image].lot;
        return chains.size();
    }

    int count(int what) {
        int[] all = {wide, high, limit, houses.size(), chains.size(), text.length()};
        return what >= 0 && what < 6 ? all[what] : -1;
    }

    long trace() {
        return trace;
    }
}
