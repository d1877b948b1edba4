import java.util.Arrays;

/** A yard of cells with houses, and chains of steps that may not go on in one direction for long. */
public final class BentYards {
    public static final int BAD = -1, STATE = -2, FULL = -3, NONE = -9;
    public static final int NO = -1000000;

    private static final int NOT_SO_MANY = -5;
    private static final int NOWHERE = -1;
    private static final int MOST_SIDE = 5;
    private static final int MOST_CELLS = 25;
    private static final int MOST_LIMIT = 3;
    private static final int MOST_CHAINS = 4;
    private static final int MOST_STEPS = 12;
    private static final int MOST_FIGURES = 999999999;
    private static final int HIGHEST_FIGURE = 100000000;
    private static final int MOST_BYTES = 200;
    private static final int MOST_WAY = 60;
    private static final int MOST_WAYS = 20;
    private static final int MOST_GUSTS = 99;
    private static final int MOST_HEDGES = 3;
    private static final int DIRECTIONS = 4;
    private static final int IMAGES = 2;

    private final Site site;
    private final Reader reader;
    private final Walks walks;
    private final Wind wind;
    private final Chain trial;
    private final Site[] images;
    private final boolean[] kept;
    private long marked;

    public BentYards() {
        site = new Site();
        reader = new Reader();
        walks = new Walks();
        wind = new Wind();
        trial = new Chain();
        images = new Site[IMAGES];
        for (int i = 0; i < IMAGES; i++) {
            images[i] = new Site();
        }
        kept = new boolean[IMAGES];
        marked = 0;
    }

    // ---- the yard

    public int type(long v, int n) {
        if (n < 1 || n > 8) {
            return BAD;
        }
        if (reader.length + n > MOST_BYTES) {
            return FULL;
        }
        for (int i = n - 1; i >= 0; i--) {
            reader.append((byte) (v >>> (8 * i)));
        }
        return reader.length;
    }

    public int clear() {
        int had = reader.length;
        reader.length = 0;
        return had;
    }

    public int yard() {
        reader.begin();
        for (int i = 0; i < MOST_BYTES && !reader.isAtEnd(); i++) {
            if (!reader.readItem()) {
                return -10 - reader.place;
            }
        }
        int lot = site.lot;
        site.copyFrom(reader.draft);
        site.lot = lot;
        for (int i = 0; i < IMAGES; i++) {
            kept[i] = false;
        }
        reader.length = 0;
        return reader.items;
    }

    public int cell(int c) {
        if (!site.has(c)) {
            return BAD;
        }
        if (site.isHouse(c)) {
            return 1;
        }
        return site.isTrodden(c) ? 2 : 0;
    }

    public int chain(int k, int what) {
        Chain chain = site.chainAt(k);
        if (chain == null) {
            return BAD;
        }
        switch (what) {
            case 0: return chain.first;
            case 1: return chain.last;
            case 2: return chain.length;
            case 3: return chain.longestRun();
            default: return BAD;
        }
    }

    public int step(int k, int i) {
        Chain chain = site.chainAt(k);
        if (chain == null || i < 0) {
            return BAD;
        }
        return i < chain.length ? chain.stepAt(i) : NOT_SO_MANY;
    }

    // ---- what is straight

    public int straight(int k) {
        Chain chain = site.chainAt(k);
        return chain == null ? BAD : chain.straightAt(site.limit);
    }

    public int joint(int k, int l) {
        Chain one = site.chainAt(k);
        Chain two = site.chainAt(l);
        if (one == null || two == null) {
            return BAD;
        }
        return one.joins(two, site.limit) ? 1 : 0;
    }

    public int way(int a, int b, int i) {
        if (!site.isFree(a) || !site.isFree(b) || i < -1) {
            return BAD;
        }
        int steps = walks.shortest(site, a, b);
        return ofRow(steps, i, walks.row, steps);
    }

    public long ways(int a, int b, int n) {
        if (!site.isFree(a) || !site.isFree(b) || n < 0 || n > MOST_WAYS) {
            return BAD;
        }
        return walks.howMany(site, a, b, n);
    }

    public int mend(int k, int i) {
        Chain chain = site.chainAt(k);
        if (chain == null || i < -1) {
            return BAD;
        }
        return ofRow(walks.mended(site, chain), i, walks.row, chain.length);
    }

    // ---- the wind

    public int lines(int what) {
        if (what < 0 || what > 4) {
            return BAD;
        }
        wind.look(site);
        if (what == 0) {
            return wind.count;
        }
        if (what == 1) {
            return wind.harmOfAll();
        }
        int longest = wind.longest();
        if (longest < 0) {
            return NONE;
        }
        if (what == 2) {
            return wind.lengths[longest];
        }
        if (what == 3) {
            return wind.firsts[longest];
        }
        return longest < wind.inRows ? 0 : 1;
    }

    public int hedges(int i) {
        if (i < -1 || i >= MOST_HEDGES) {
            return BAD;
        }
        wind.look(site);
        int fewest = wind.fewestHedges();
        return ofRow(fewest, i, wind.hedge, fewest);
    }

    public int gusts(int n) {
        if (n < 1 || n > MOST_GUSTS) {
            return BAD;
        }
        wind.look(site);
        if (wind.count < 1) {
            return 0;
        }
        int harm = 0;
        for (int i = 0; i < n; i++) {
            site.lot = site.lot * 1103515245 + 12345;
            harm += wind.harmOf((site.lot >>> 16) % wind.count);
        }
        return harm;
    }

    public int lot(int v) {
        int was = site.lot;
        site.lot = v;
        return was;
    }

    // ---- houses, streets

    public int build(int c) {
        if (!site.has(c)) {
            return BAD;
        }
        if (!site.isOpen(c)) {
            return STATE;
        }
        site.houses |= 1 << c;
        return site.houseCount();
    }

    public int raze(int c) {
        if (!site.has(c)) {
            return BAD;
        }
        if (!site.isHouse(c)) {
            return STATE;
        }
        site.houses &= ~(1 << c);
        return site.houseCount();
    }

    public int street(int c, int steps) {
        if (!site.isFree(c) || !trial.takeFigures(steps)) {
            return BAD;
        }
        trial.first = c;
        if (!site.walkOver(trial)) {
            return BAD;
        }
        if (trial.straightAt(site.limit) != NONE || site.joinsAny(trial)) {
            return STATE;
        }
        return site.addChain(trial) ? site.chainCount : FULL;
    }

    public int close() {
        if (site.chainCount < 1) {
            return STATE;
        }
        site.chainCount--;
        return site.chainCount;
    }

    // ---- kinds, images

    public int mark(int kind, int k) {
        Chain chain = site.chainAt(k);
        if (chain == null) {
            return NO;
        }
        switch (kind) {
            case 0: return markAsChain(chain);
            case 1: return markAsWall(chain);
            case 2: return markAsWay(chain);
            case 3: return markAsDoor(chain, k);
            case 4: return markAsGlance(chain);
            case 5: return markAsRope(chain);
            default: return NO;
        }
    }

    public int keep(int image) {
        if (image < 0 || image >= IMAGES) {
            return BAD;
        }
        images[image].copyFrom(site);
        kept[image] = true;
        return site.chainCount;
    }

    public int back(int image) {
        if (image < 0 || image >= IMAGES) {
            return BAD;
        }
        if (!kept[image]) {
            return STATE;
        }
        site.copyFrom(images[image]);
        return site.chainCount;
    }

    public int count(int what) {
        switch (what) {
            case 0: return site.wide;
            case 1: return site.high;
            case 2: return site.limit;
            case 3: return site.houseCount();
            case 4: return site.chainCount;
            case 5: return reader.length;
            default: return BAD;
        }
    }

    public long trace() {
        return marked;
    }

    private int markAsChain(Chain chain) {
        marked += 1;
        return chain.length;
    }

    private int markAsWall(Chain chain) {
        marked += 10;
        return markAsChain(chain) * 2;
    }

    private int markAsWay(Chain chain) {
        marked += 100;
        return markAsChain(chain) - chain.longestRun();
    }

    private int markAsDoor(Chain chain, int number) {
        marked += 1000;
        return markAsWall(chain) + number;
    }

    private int markAsGlance(Chain chain) {
        marked += 10000;
        int between = walks.shortest(site, chain.first, chain.last);
        return markAsWay(chain) + (between == NONE ? 0 : between);
    }

    private int markAsRope(Chain chain) {
        marked += 100000;
        return markAsChain(chain) + site.houseCount();
    }

    /** The answer itself (i = -1) or the i-th of the row behind it. */
    private static int ofRow(int answer, int i, int[] row, int length) {
        if (answer == NONE || i < 0) {
            return answer;
        }
        return i < length && i < row.length ? row[i] : NOT_SO_MANY;
    }

    /** A chain: its first cell and its steps; last and cells are what Site.walkOver found. */
    private static final class Chain {
        int first;
        int last;
        int length;
        int cells;
        final int[] steps;

        Chain() {
            steps = new int[MOST_STEPS];
        }

        void copyFrom(Chain other) {
            first = other.first;
            last = other.last;
            length = other.length;
            cells = other.cells;
            System.arraycopy(other.steps, 0, steps, 0, MOST_STEPS);
        }

        boolean addStep(int direction) {
            if (direction < 0 || direction >= DIRECTIONS || length < 0 || length >= MOST_STEPS) {
                return false;
            }
            steps[length] = direction;
            length++;
            return true;
        }

        int stepAt(int i) {
            return i >= 0 && i < length && i < MOST_STEPS ? steps[i] : NOWHERE;
        }

        /** Figures 1 to 4, the first step the highest; false if they are no steps. */
        boolean takeFigures(int figures) {
            length = 0;
            if (figures < 1 || figures > MOST_FIGURES) {
                return false;
            }
            int left = figures;
            for (int unit = HIGHEST_FIGURE; unit > 0; unit /= 10) {
                if (figures >= unit && !addStep(left / unit - 1)) {
                    return false;
                }
                left %= unit;
            }
            return true;
        }

        /** How long the run is that ends with the i-th step. */
        int runUpTo(int i) {
            int run = 1;
            for (int j = i; j > 0 && stepAt(j - 1) == stepAt(i); j--) {
                run++;
            }
            return run;
        }

        int firstRun() {
            int run = 1;
            while (run < length && stepAt(run) == stepAt(0)) {
                run++;
            }
            return run;
        }

        int longestRun() {
            int longest = 0;
            for (int i = 0; i < length; i++) {
                longest = Math.max(longest, runUpTo(i));
            }
            return longest;
        }

        int straightAt(int limit) {
            for (int i = 0; i < length; i++) {
                if (runUpTo(i) > limit) {
                    return i;
                }
            }
            return NONE;
        }

        boolean joins(Chain second, int limit) {
            return last == second.first
                    && stepAt(length - 1) == second.stepAt(0)
                    && runUpTo(length - 1) + second.firstRun() > limit;
        }
    }

    /** The yard with its houses (a bit a cell), its chains and the lot. */
    private static final class Site {
        int wide;
        int high;
        int limit;
        int houses;
        int chainCount;
        int lot;
        final Chain[] chains;

        Site() {
            chains = new Chain[MOST_CHAINS];
            for (int i = 0; i < MOST_CHAINS; i++) {
                chains[i] = new Chain();
            }
            lot = 1;
            beginAnew();
        }

        void beginAnew() {
            wide = MOST_SIDE;
            high = MOST_SIDE;
            limit = 1;
            houses = 0;
            chainCount = 0;
        }

        void copyFrom(Site other) {
            wide = other.wide;
            high = other.high;
            limit = other.limit;
            houses = other.houses;
            chainCount = other.chainCount;
            lot = other.lot;
            for (int i = 0; i < MOST_CHAINS; i++) {
                chains[i].copyFrom(other.chains[i]);
            }
        }

        boolean has(int c) {
            return c >= 0 && c < wide * high;
        }

        boolean isHouse(int c) {
            return has(c) && (houses >> c & 1) == 1;
        }

        boolean isFree(int c) {
            return c >= 0 && c < wide * high && (houses >> c & 1) == 0;
        }

        boolean isTrodden(int c) {
            return has(c) && (trodden() >> c & 1) == 1;
        }

        boolean isOpen(int c) {
            return isFree(c) && !isTrodden(c);
        }

        /** The cells that chains begin on or come to, a bit a cell. */
        int trodden() {
            int cells = 0;
            for (int i = 0; i < chainCount && i < MOST_CHAINS; i++) {
                cells |= chains[i].cells;
            }
            return cells;
        }

        int openCells() {
            return ((1 << wide * high) - 1) & ~houses & ~trodden();
        }

        int houseCount() {
            return Integer.bitCount(houses);
        }

        Chain chainAt(int k) {
            return k >= 0 && k < chainCount && k < MOST_CHAINS ? chains[k] : null;
        }

        /** The cell that a step leads to; NOWHERE if it leads out or onto a house. */
        int beside(int c, int direction) {
            if (!has(c) || wide < 1) {
                return NOWHERE;
            }
            int x = c % wide;
            int there = NOWHERE;
            switch (direction) {
                case 0: there = c - wide; break;
                case 1: there = x + 1 < wide ? c + 1 : NOWHERE; break;
                case 2: there = c + wide; break;
                case 3: there = x > 0 ? c - 1 : NOWHERE; break;
                default: break;
            }
            return isFree(there) ? there : NOWHERE;
        }

        /** Finds a chain's last cell and all its cells; false if a step can't be gone. */
        boolean walkOver(Chain chain) {
            if (!isFree(chain.first)) {
                return false;
            }
            int at = chain.first;
            int cells = 1 << at;
            for (int i = 0; i < chain.length; i++) {
                at = beside(at, chain.stepAt(i));
                if (at == NOWHERE) {
                    return false;
                }
                cells |= 1 << at;
            }
            chain.last = at;
            chain.cells = cells;
            return true;
        }

        boolean joinsAny(Chain chain) {
            for (int i = 0; i < chainCount && i < MOST_CHAINS; i++) {
                if (chains[i].joins(chain, limit) || chain.joins(chains[i], limit)) {
                    return true;
                }
            }
            return false;
        }

        boolean addChain(Chain chain) {
            if (chainCount < 0 || chainCount >= MOST_CHAINS) {
                return false;
            }
            chains[chainCount].copyFrom(chain);
            chainCount++;
            return true;
        }
    }

    /** The text and how it is read, token by token, into a draft. */
    private static final class Reader {
        private static final int END = 0, WORD = 1, NUMBER = 2, SEMICOLON = 3, WRONG = 4;
        private static final int MOST_NUMBER = 99;

        int length;
        int items;
        int place;
        final Site draft;
        private final byte[] text;
        private final Chain told;
        private int token;
        private int behind;
        private int number;

        Reader() {
            text = new byte[MOST_BYTES];
            draft = new Site();
            told = new Chain();
        }

        void append(byte b) {
            if (length >= 0 && length < MOST_BYTES) {
                text[length] = b;
                length++;
            }
        }

        void begin() {
            draft.beginAnew();
            items = 0;
            behind = 0;
            nextToken();
        }

        boolean isAtEnd() {
            return token == END;
        }

        /** Reads an item into the draft, and the token behind it; false with the fault's place else. */
        boolean readItem() {
            boolean isRead = isWord("yard") ? items == 0 && readYard() : readOnCell();
            if (isRead) {
                items++;
                nextToken();
            }
            return isRead;
        }

        private boolean readYard() {
            if (!nextNumber(1, MOST_SIDE)) {
                return false;
            }
            draft.wide = number;
            if (!nextNumber(1, MOST_SIDE)) {
                return false;
            }
            draft.high = number;
            if (!nextNumber(1, MOST_LIMIT)) {
                return false;
            }
            draft.limit = number;
            return nextSemicolon();
        }

        private boolean readOnCell() {
            boolean isHouse = isWord("house") && draft.chainCount == 0;
            boolean isChain = isWord("chain") && draft.chainCount < MOST_CHAINS;
            if (!isHouse && !isChain) {
                return false;
            }
            int c = nextCell();
            if (c == NOWHERE) {
                return false;
            }
            return isHouse ? endHouse(c) : endChain(c);
        }

        private boolean endHouse(int c) {
            draft.houses |= 1 << c;
            return nextSemicolon();
        }

        private boolean endChain(int c) {
            if (!draft.isFree(c)) {
                return false;
            }
            told.first = c;
            nextToken();
            return token == WORD && takeSteps() && draft.walkOver(told)
                    && nextSemicolon() && draft.addChain(told);
        }

        private boolean takeSteps() {
            told.length = 0;
            for (int i = place; i < behind; i++) {
                if (!told.addStep(directionOf(byteAt(i)))) {
                    return false;
                }
            }
            return true;
        }

        private static int directionOf(int letter) {
            switch (letter) {
                case 'n': return 0;
                case 'e': return 1;
                case 's': return 2;
                case 'w': return 3;
                default: return NOWHERE;
            }
        }

        /** The cell of the two numbers that come next; NOWHERE with the fault's place else. */
        private int nextCell() {
            if (!nextNumber(0, draft.wide - 1)) {
                return NOWHERE;
            }
            int x = number;
            return nextNumber(0, draft.high - 1) ? draft.wide * number + x : NOWHERE;
        }

        private boolean nextNumber(int lowest, int highest) {
            nextToken();
            return token == NUMBER && takeNumber() && number >= lowest && number <= highest;
        }

        private boolean nextSemicolon() {
            nextToken();
            return token == SEMICOLON;
        }

        private boolean isWord(String word) {
            if (token != WORD || behind - place != word.length()) {
                return false;
            }
            for (int i = 0; i < word.length(); i++) {
                if (byteAt(place + i) != word.charAt(i)) {
                    return false;
                }
            }
            return true;
        }

        /** Reads the token behind the last one: place is its first byte, the text's length at the end. */
        private void nextToken() {
            place = behind;
            while (place < length && byteAt(place) == ' ') {
                place++;
            }
            behind = place + 1;
            int b = byteAt(place);
            if (place >= length) {
                token = END;
                behind = place;
            } else if (b == ';') {
                token = SEMICOLON;
            } else if (isLetter(b)) {
                token = WORD;
                while (behind < length && isLetter(byteAt(behind))) {
                    behind++;
                }
            } else if (isFigure(b)) {
                token = NUMBER;
                while (behind < length && isFigure(byteAt(behind))) {
                    behind++;
                }
            } else {
                token = WRONG;
            }
        }

        private boolean takeNumber() {
            number = 0;
            for (int i = place; i < behind; i++) {
                // held just above the most, so that many figures can't wrap around to a small number
                number = Math.min(number * 10 + byteAt(i) - '0', MOST_NUMBER + 1);
            }
            boolean zeroAhead = byteAt(place) == '0' && behind > place + 1;
            return !zeroAhead && number <= MOST_NUMBER;
        }

        private int byteAt(int i) {
            return i >= 0 && i < length && i < MOST_BYTES ? text[i] & 255 : NOWHERE;
        }

        private static boolean isLetter(int b) {
            return b >= 'a' && b <= 'z';
        }

        private static boolean isFigure(int b) {
            return b >= '0' && b <= '9';
        }
    }

    /**
     * Rows of steps that are nowhere straight. A state is a cell and a heading: 0 at the beginning,
     * then the direction of the last step and how long its run is.
     */
    private static final class Walks {
        private static final int HEADINGS = 1 + DIRECTIONS * MOST_LIMIT;
        private static final int STATES = MOST_CELLS * HEADINGS;
        private static final int UNSEEN = -1;
        private static final int FAR = 1000;

        final int[] row;
        private int limit;
        private int states;
        private final int[] neighbours;
        private final int[] cameFrom;
        private final int[] queue;
        private final long[] counts;
        private final long[] nextCounts;
        private final int[] differs;

        Walks() {
            row = new int[MOST_WAY];
            neighbours = new int[MOST_CELLS * DIRECTIONS];
            cameFrom = new int[STATES];
            queue = new int[STATES];
            counts = new long[STATES];
            nextCounts = new long[STATES];
            differs = new int[(MOST_STEPS + 1) * STATES];
        }

        /**
         * How many steps the way has, its steps in the row; NONE. States are found in the order of
         * their first rows, so the first that is on the goal has the first of all shortest rows.
         */
        int shortest(Site site, int from, int goal) {
            if (from == goal) {
                return 0;
            }
            lookAt(site);
            Arrays.fill(cameFrom, UNSEEN);
            int start = startOn(from);
            cameFrom[start] = start;
            queue[0] = start;
            int head = 0;
            int tail = 1;
            for (int steps = 1; steps <= MOST_WAY; steps++) {
                int levelEnd = tail;
                for (; head < levelEnd; head++) {
                    for (int d = 0; d < DIRECTIONS; d++) {
                        int next = after(queue[head], d);
                        if (next < 0 || cameFrom[next] != UNSEEN || tail >= STATES) {
                            continue;
                        }
                        cameFrom[next] = queue[head];
                        if (next / HEADINGS == goal) {
                            fillRow(next, steps);
                            return steps;
                        }
                        queue[tail] = next;
                        tail++;
                    }
                }
            }
            return NONE;
        }

        private void fillRow(int end, int steps) {
            int state = end;
            for (int i = steps - 1; i >= 0; i--) {
                if (i < MOST_WAY && state >= 0 && state < STATES) {
                    row[i] = (state % HEADINGS - 1) / MOST_LIMIT;
                    state = cameFrom[state];
                }
            }
        }

        long howMany(Site site, int from, int goal, int n) {
            lookAt(site);
            long[] now = counts;
            long[] then = nextCounts;
            Arrays.fill(now, 0);
            now[startOn(from)] = 1;
            for (int i = 0; i < n; i++) {
                Arrays.fill(then, 0);
                goOneStep(now, then);
                long[] spare = now;
                now = then;
                then = spare;
            }
            long sum = 0;
            for (int h = 0; h < HEADINGS; h++) {
                sum += now[startOn(goal) + h];
            }
            return sum;
        }

        private void goOneStep(long[] now, long[] then) {
            for (int state = 0; state < states; state++) {
                if (now[state] == 0) {
                    continue;
                }
                for (int d = 0; d < DIRECTIONS; d++) {
                    int next = after(state, d);
                    if (next >= 0) {
                        then[next] += now[state];
                    }
                }
            }
        }

        /** In how many steps the mended chain differs, its steps in the row; NONE. */
        int mended(Site site, Chain chain) {
            lookAt(site);
            int length = Math.min(chain.length, MOST_STEPS);
            for (int state = 0; state < states; state++) {
                differs[length * STATES + state] = state / HEADINGS == chain.last ? 0 : FAR;
            }
            for (int i = length - 1; i >= 0; i--) {
                for (int state = 0; state < states; state++) {
                    differs[i * STATES + state] = fewestFrom(chain, i, state);
                }
            }
            int fewest = differs[startOn(chain.first)];
            if (fewest >= FAR) {
                return NONE;
            }
            fillMended(chain, length);
            return fewest;
        }

        private int fewestFrom(Chain chain, int i, int state) {
            int fewest = FAR;
            for (int d = 0; d < DIRECTIONS; d++) {
                fewest = Math.min(fewest, differsBy(chain, i, state, d));
            }
            return fewest;
        }

        private void fillMended(Chain chain, int length) {
            int state = startOn(chain.first);
            for (int i = 0; i < length && i < MOST_STEPS; i++) {
                int d = 0;
                while (d < DIRECTIONS - 1 && differsBy(chain, i, state, d) > fewestFrom(chain, i, state)) {
                    d++;
                }
                row[i] = d;
                state = after(state, d);
            }
        }

        /** How many steps differ from the i-th on, if that one goes in a direction. */
        private int differsBy(Chain chain, int i, int state, int d) {
            int next = after(state, d);
            if (next < 0 || i < 0 || i >= MOST_STEPS) {
                return FAR;
            }
            return differs[(i + 1) * STATES + next] + (d == chain.stepAt(i) ? 0 : 1);
        }

        private void lookAt(Site site) {
            limit = site.limit;
            int cells = Math.min(site.wide * site.high, MOST_CELLS);
            states = cells * HEADINGS;
            for (int c = 0; c < cells; c++) {
                for (int d = 0; d < DIRECTIONS; d++) {
                    neighbours[c * DIRECTIONS + d] = site.beside(c, d);
                }
            }
        }

        private static int startOn(int c) {
            return c >= 0 && c < MOST_CELLS ? c * HEADINGS : 0;
        }

        /** The state behind a step; NOWHERE if it can't be gone or would be straight. */
        private int after(int state, int d) {
            if (state < 0 || state >= states || d < 0 || d >= DIRECTIONS) {
                return NOWHERE;
            }
            int there = neighbours[state / HEADINGS * DIRECTIONS + d];
            if (there == NOWHERE) {
                return NOWHERE;
            }
            int heading = state % HEADINGS;
            int shortestRun = 1 + d * MOST_LIMIT;
            if (heading < shortestRun || heading >= shortestRun + MOST_LIMIT) {
                return startOn(there) + shortestRun;
            }
            int run = heading - shortestRun + 1;
            return run < limit ? startOn(there) + heading + 1 : NOWHERE;
        }
    }

    /** The lines along which the wind goes: those in rows first, then those in columns. */
    private static final class Wind {
        private static final int MOST_LINES = 30;
        private static final int MOST_STRETCHES = 40;

        final int[] lengths;
        final int[] firsts;
        final int[] hedge;
        int count;
        int inRows;
        private int limit;
        private int wide;
        private int open;
        private final int[] stretches;
        private int stretchCount;

        Wind() {
            lengths = new int[MOST_LINES];
            firsts = new int[MOST_LINES];
            hedge = new int[MOST_HEDGES];
            stretches = new int[MOST_STRETCHES];
        }

        void look(Site site) {
            limit = site.limit;
            wide = site.wide;
            open = site.openCells();
            count = 0;
            for (int y = 0; y < site.high; y++) {
                lookAlong(y * wide, 1, wide);
            }
            inRows = count;
            for (int x = 0; x < wide; x++) {
                lookAlong(x, wide, site.high);
            }
        }

        private void lookAlong(int first, int apart, int cells) {
            boolean inLine = false;
            for (int i = 0; i < cells; i++) {
                int c = first + i * apart;
                boolean isOpen = (open >> c & 1) == 1;
                if (isOpen && !inLine && count < MOST_LINES) {
                    firsts[count] = c;
                    lengths[count] = 0;
                    count++;
                }
                if (isOpen && count > 0) {
                    lengths[count - 1]++;
                }
                inLine = isOpen;
            }
        }

        int harmOf(int line) {
            return line >= 0 && line < count ? Math.max(lengths[line] - limit, 0) : 0;
        }

        int harmOfAll() {
            int harm = 0;
            for (int i = 0; i < count; i++) {
                harm += harmOf(i);
            }
            return harm;
        }

        /** The number of the longest line; -1 if there are none. */
        int longest() {
            int longest = count > 0 ? 0 : -1;
            for (int i = 1; i < count; i++) {
                if (lengths[i] > lengths[longest]) {
                    longest = i;
                }
            }
            return longest;
        }

        int fewestHedges() {
            findStretches();
            for (int size = 0; size <= MOST_HEDGES; size++) {
                if (placeHedges(this, 0, size, 0)) {
                    return size;
                }
            }
            return NONE;
        }

        /** No line has any harm when each stretch of one cell more than the limit has a hedge. */
        private void findStretches() {
            stretchCount = 0;
            for (int i = 0; i < count; i++) {
                int apart = i < inRows ? 1 : wide;
                for (int j = 0; j < harmOf(i) && stretchCount < MOST_STRETCHES; j++) {
                    stretches[stretchCount] = cellsOf(firsts[i] + j * apart, apart);
                    stretchCount++;
                }
            }
        }

        private int cellsOf(int first, int apart) {
            int cells = 0;
            for (int i = 0; i <= limit; i++) {
                cells |= 1 << (first + i * apart);
            }
            return cells;
        }

        private boolean breakAll(int hedges) {
            for (int i = 0; i < stretchCount; i++) {
                if ((stretches[i] & hedges) == 0) {
                    return false;
                }
            }
            return true;
        }

        /** Tries the hedges from one number on, each behind the last one; depth: at most 3. */
        private static boolean placeHedges(Wind wind, int placed, int size, int hedges) {
            if (placed >= size || placed >= MOST_HEDGES) {
                return wind.breakAll(hedges);
            }
            int from = placed > 0 ? wind.hedge[placed - 1] + 1 : 0;
            for (int c = from; c < MOST_CELLS; c++) {
                if ((wind.open >> c & 1) == 1) {
                    wind.hedge[placed] = c;
                    if (placeHedges(wind, placed + 1, size, hedges | 1 << c)) {
                        return true;
                    }
                }
            }
            return false;
        }
    }
}
