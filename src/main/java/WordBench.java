import java.util.Arrays;

/** Words that set right: machines of states and letters, and the words that bring their states together. */
public final class WordBench {
    public static final int NONE = -1, BAD = -2, NO = -3, FULL = -4;

    private static final int MACHINES = 6;
    private static final int STATES = 12;
    private static final int LETTERS = 4;
    private static final int SETS = 1 << STATES;
    private static final int PAIRS = STATES * STATES;
    private static final int LONGEST = 600;
    private static final int TOP_LIGHT = 3;
    private static final int TOP_PRICE = 20;
    private static final int TOP_SHARE = 5;
    private static final int TOP_TIME = 12;
    private static final int COLOURINGS = 1500;

    private final Machine[] machines = new Machine[MACHINES];
    private int made;
    private final Word word = new Word();
    private final Steps steps = new Steps();
    private final Trail trail = new Trail();
    private final SetSearch search = new SetSearch(steps, trail);
    private final PriceSearch prices = new PriceSearch(steps, trail);
    private final Chances odds = new Chances(steps, search);
    private final Pairs pairs = new Pairs();
    private final Greedy greed = new Greedy(steps, pairs);
    private final Colouring colouring = new Colouring();

    public WordBench() {
    }

    public int machine(int states, int letters) {
        if (states < 1 || states > STATES || letters < 1 || letters > LETTERS) {
            return BAD;
        }
        return made >= MACHINES ? FULL : add(new Machine(states, letters));
    }

    public int ring(int n) {
        if (n < 2 || n > STATES) {
            return BAD;
        }
        if (made >= MACHINES) {
            return FULL;
        }
        Machine m = new Machine(n, 2);
        for (int state = 0; state < n; state++) {
            boolean last = state == n - 1;
            m.lead(state, 0, last ? 0 : state + 1);
            m.lead(state, 1, last ? 0 : state);
        }
        return add(m);
    }

    public int move(int machine, int state, int letter, int to) {
        Machine m = machineAt(machine);
        if (m == null || !m.hasState(state) || !m.hasLetter(letter) || (to != NONE && !m.hasState(to))) {
            return BAD;
        }
        int was = m.target(state, letter);
        m.lead(state, letter, to);
        return was;
    }

    public int light(int machine, int state, int v) {
        Machine m = machineAt(machine);
        if (m == null || !m.hasState(state) || v < 0 || v > TOP_LIGHT) {
            return BAD;
        }
        return m.putLight(state, v);
    }

    public int price(int machine, int letter, int v) {
        Machine m = machineAt(machine);
        if (m == null || !m.hasLetter(letter) || v < 1 || v > TOP_PRICE) {
            return BAD;
        }
        return m.putPrice(letter, v);
    }

    public int share(int machine, int letter, int v) {
        Machine m = machineAt(machine);
        if (m == null || !m.hasLetter(letter) || v < 0 || v > TOP_SHARE) {
            return BAD;
        }
        return m.putShare(letter, v);
    }

    public int about(int machine, int what) {
        Machine m = machineAt(machine);
        if (m == null || what < 0 || what > 2) {
            return BAD;
        }
        return fact(m, what);
    }

    public int moveOf(int machine, int state, int letter) {
        Machine m = machineAt(machine);
        if (m == null || !m.hasState(state) || !m.hasLetter(letter)) {
            return BAD;
        }
        return m.target(state, letter);
    }

    // ---- words

    public int empty() {
        int was = word.length();
        word.clear();
        return was;
    }

    public int letter(int l) {
        if (l < 0 || l >= LETTERS) {
            return BAD;
        }
        return word.append(l) ? word.length() : FULL;
    }

    public int letterAt(int i) {
        return word.at(i);
    }

    public int goes(int machine, int set) {
        Machine m = machineAt(machine);
        if (m == null || !m.hasSet(set) || !word.isOf(m)) {
            return BAD;
        }
        steps.load(m);
        int to = steps.afterWord(set, word);
        return to == 0 ? NONE : to;
    }

    public int shortest(int machine, int set) {
        Machine m = machineAt(machine);
        if (m == null || !m.hasSet(set)) {
            return BAD;
        }
        return tellWordTo(search.look(m, set, SetSearch.ANY_ONE));
    }

    public int shortestTo(int machine, int set, int q) {
        Machine m = machineAt(machine);
        if (m == null || !m.hasSet(set) || !m.hasState(q)) {
            return BAD;
        }
        return tellWordTo(search.look(m, set, 1 << q));
    }

    public int rank(int machine, int set) {
        Machine m = machineAt(machine);
        if (m == null || !m.hasSet(set)) {
            return BAD;
        }
        int found = search.look(m, set, SetSearch.ANY_ONE);
        if (found == 0) {
            found = search.fewest();
        }
        tellWordTo(found);
        return Integer.bitCount(found);
    }

    public int merge(int machine, int p, int q) {
        Machine m = machineAt(machine);
        if (m == null || !m.hasState(p) || !m.hasState(q) || p == q) {
            return BAD;
        }
        pairs.load(m);
        return pairs.lengthOf(p, q);
    }

    public int unmerged(int machine) {
        Machine m = machineAt(machine);
        if (m == null) {
            return BAD;
        }
        pairs.load(m);
        return pairs.without();
    }

    public int greedy(int machine, int set) {
        Machine m = machineAt(machine);
        if (m == null || !m.hasSet(set)) {
            return BAD;
        }
        return greed.run(m, set, word);
    }

    public int cheapest(int machine, int set) {
        Machine m = machineAt(machine);
        if (m == null || !m.hasSet(set)) {
            return BAD;
        }
        int found = prices.look(m, set);
        if (found == 0) {
            return NONE;
        }
        tellWordTo(found);
        return prices.sumOf(found);
    }

    public long chance(int machine, int set, int t) {
        Machine m = machineAt(machine);
        if (m == null || !m.hasSet(set) || t < 0 || t > TOP_TIME) {
            return BAD;
        }
        return odds.right(m, set, t);
    }

    public long chances(int machine, int t) {
        Machine m = machineAt(machine);
        if (m == null || t < 0 || t > TOP_TIME) {
            return BAD;
        }
        return odds.all(m, t);
    }

    // ---- kinds, colours, lights

    public int kinds(int machine) {
        Machine m = machineAt(machine);
        if (m == null) {
            return BAD;
        }
        return m.isWhole() ? Kinds.of(m) : NO;
    }

    public int colour(int machine) {
        Machine m = machineAt(machine);
        if (m == null) {
            return BAD;
        }
        return m.isWhole() ? colouring.paint(m) : NO;
    }

    public int apart(int machine, int p, int q) {
        Machine m = machineAt(machine);
        if (m == null || !m.hasState(p) || !m.hasState(q)) {
            return BAD;
        }
        return pairs.lengthApart(m, p, q);
    }

    public int count(int what) {
        if (what < 0 || what > 1) {
            return BAD;
        }
        return what == 0 ? made : word.length();
    }

    public long digest() {
        long h = 163;
        for (int i = 0; i < made && i < MACHINES; i++) {
            if (machines[i] != null) {
                h = digestOf(machines[i], h);
            }
        }
        h = 31 * h + word.length();
        for (int i = 0; i < word.length(); i++) {
            h = 31 * h + word.at(i);
        }
        return h;
    }

    private static long digestOf(Machine m, long before) {
        long h = before;
        for (int what = 0; what <= 2; what++) {
            h = 31 * h + fact(m, what);
        }
        for (int state = 0; state < m.states(); state++) {
            for (int l = 0; l < m.letters(); l++) {
                h = 31 * h + m.target(state, l);
            }
            h = 31 * h + m.lightOf(state);
        }
        for (int l = 0; l < m.letters(); l++) {
            h = 31 * h + m.priceOf(l);
            h = 31 * h + m.shareOf(l);
        }
        return h;
    }

    private static int fact(Machine m, int what) {
        if (what == 0) {
            return m.states();
        }
        return what == 1 ? m.letters() : m.isWhole() ? 1 : 0;
    }

    private int add(Machine m) {
        if (made >= MACHINES) {
            return FULL;
        }
        machines[made] = m;
        made++;
        return made - 1;
    }

    private Machine machineAt(int number) {
        return number >= 0 && number < made && number < MACHINES ? machines[number] : null;
    }

    /** How long the word is by which the last search came to the set: it becomes the word, if it is not too long. */
    private int tellWordTo(int found) {
        if (found == 0) {
            return NONE;
        }
        int length = trail.lengthTo(found);
        if (length <= LONGEST) {
            trail.giveWord(found, length, word);
        }
        return length;
    }

    /** States, letters, moves, lights, prices and shares. */
    private static final class Machine {
        private final int states;
        private final int letters;
        private final int[] moves = new int[STATES * LETTERS];
        private final int[] lights = new int[STATES];
        private final int[] prices = new int[LETTERS];
        private final int[] shares = new int[LETTERS];

        Machine(int states, int letters) {
            this.states = states;
            this.letters = letters;
            Arrays.fill(moves, NONE);
            Arrays.fill(prices, 1);
            Arrays.fill(shares, 1);
        }

        int states() {
            return states;
        }

        int letters() {
            return letters;
        }

        boolean hasState(int state) {
            return state >= 0 && state < states && state < STATES;
        }

        boolean hasLetter(int l) {
            return l >= 0 && l < letters && l < LETTERS;
        }

        boolean hasSet(int set) {
            return set > 0 && set < SETS && set >> states == 0;
        }

        /** To what a move leads; NONE also where no such state or letter is. */
        int target(int state, int l) {
            boolean there = state >= 0 && state < states && state < STATES && l >= 0 && l < letters && l < LETTERS;
            return there ? moves[state * LETTERS + l] : NONE;
        }

        void lead(int state, int l, int to) {
            if (hasState(state) && hasLetter(l)) {
                moves[state * LETTERS + l] = hasState(to) ? to : NONE;
            }
        }

        int lightOf(int state) {
            return hasState(state) ? lights[state] : 0;
        }

        int priceOf(int l) {
            return hasLetter(l) ? prices[l] : 1;
        }

        int shareOf(int l) {
            return hasLetter(l) ? shares[l] : 0;
        }

        int putLight(int state, int v) {
            int was = lightOf(state);
            if (hasState(state)) {
                lights[state] = v;
            }
            return was;
        }

        int putPrice(int l, int v) {
            int was = priceOf(l);
            if (hasLetter(l)) {
                prices[l] = v;
            }
            return was;
        }

        int putShare(int l, int v) {
            int was = shareOf(l);
            if (hasLetter(l)) {
                shares[l] = v;
            }
            return was;
        }

        boolean isWhole() {
            for (int state = 0; state < states; state++) {
                for (int l = 0; l < letters; l++) {
                    if (target(state, l) == NONE) {
                        return false;
                    }
                }
            }
            return true;
        }
    }

    /** A row of letters of bounded length. */
    private static final class Word {
        private final int[] row = new int[LONGEST];
        private int length;

        int length() {
            return length;
        }

        void clear() {
            length = 0;
        }

        boolean append(int l) {
            if (length < 0 || length >= LONGEST) {
                return false;
            }
            row[length] = l;
            length++;
            return true;
        }

        /** Makes room for so many letters, which are put one by one. */
        void resize(int newLength) {
            length = newLength < 0 ? 0 : Math.min(newLength, LONGEST);
        }

        void put(int i, int l) {
            if (i >= 0 && i < length && i < LONGEST) {
                row[i] = l;
            }
        }

        int at(int i) {
            return i >= 0 && i < length && i < LONGEST ? row[i] : NONE;
        }

        /** Whether the machine has all the letters. */
        boolean isOf(Machine m) {
            for (int i = 0; i < length && i < LONGEST; i++) {
                if (!m.hasLetter(row[i])) {
                    return false;
                }
            }
            return true;
        }

        void copy(Word other) {
            resize(other.length());
            for (int i = 0; i < length; i++) {
                put(i, other.at(i));
            }
        }

        boolean isAheadOf(Word other) {
            if (length != other.length()) {
                return length < other.length();
            }
            for (int i = 0; i < length; i++) {
                if (at(i) != other.at(i)) {
                    return at(i) < other.at(i);
                }
            }
            return false;
        }
    }

    /**
     * Where the sets of one machine go by letters. Two half tables are filled ahead of each search,
     * for it asks for thousands of sets, and each would else be gone through state by state.
     */
    private static final class Steps {
        private static final int HALF = 6;
        private static final int HALF_SETS = 1 << HALF;
        private static final int MISSING = SETS;

        private final int[] low = new int[LETTERS * HALF_SETS];
        private final int[] high = new int[LETTERS * HALF_SETS];
        private int letters;

        void load(Machine m) {
            letters = m.letters();
            for (int l = 0; l < letters; l++) {
                fill(low, m, l, 0);
                fill(high, m, l, HALF);
            }
        }

        private static void fill(int[] table, Machine m, int l, int first) {
            int row = l * HALF_SETS;
            for (int i = 0; i < HALF && m.hasState(first + i); i++) {
                int to = m.target(first + i, l);
                int bit = to == NONE ? MISSING : 1 << to;
                int half = 1 << i;
                for (int part = 0; part < half; part++) {
                    int place = row + part;
                    if (place >= 0 && place + half < table.length) {
                        table[place + half] = table[place] | bit;
                    }
                }
            }
        }

        int letters() {
            return letters;
        }

        /** The set to which a set goes; 0 if it does not. */
        int after(int set, int l) {
            if (set <= 0 || set >= SETS || l < 0 || l >= LETTERS) {
                return 0;
            }
            int row = l * HALF_SETS;
            int to = low[row + (set & (HALF_SETS - 1))] | high[row + (set >> HALF)];
            return to >= MISSING ? 0 : to;
        }

        int afterWord(int set, Word word) {
            int to = set;
            for (int i = 0; i < word.length() && to != 0; i++) {
                to = after(to, word.at(i));
            }
            return to;
        }
    }

    /** From which set, by which letter, a search came to each set. */
    private static final class Trail {
        private static final int START = 1;

        private final int[] from = new int[SETS];

        void begin(int set) {
            Arrays.fill(from, 0);
            if (set > 0 && set < SETS) {
                from[set] = START;
            }
        }

        boolean knows(int set) {
            return set > 0 && set < SETS && from[set] != 0;
        }

        void mark(int set, int before, int l) {
            if (set > 0 && set < SETS) {
                from[set] = before * LETTERS + l;
            }
        }

        private int before(int set) {
            return knows(set) ? from[set] / LETTERS : 0;
        }

        int lengthTo(int found) {
            int length = 0;
            int set = before(found);
            for (int i = 0; i < SETS && set != 0; i++) {
                length++;
                set = before(set);
            }
            return length;
        }

        void giveWord(int found, int length, Word word) {
            word.resize(length);
            int set = found;
            for (int i = length - 1; i >= 0 && knows(set); i--) {
                word.put(i, from[set] % LETTERS);
                set = before(set);
            }
        }
    }

    /** Goes from set to set, by words in order. */
    private static final class SetSearch {
        /** Wanted: any set of one state. */
        static final int ANY_ONE = 0;
        /** Wanted: none, so that all sets are found. */
        static final int ALL = -1;

        private final Steps steps;
        private final Trail trail;
        private final int[] queue = new int[SETS];
        private int size;

        SetSearch(Steps steps, Trail trail) {
            this.steps = steps;
            this.trail = trail;
        }

        /** The first set found that is wanted; 0 if none is. */
        int look(Machine m, int set, int wanted) {
            steps.load(m);
            trail.begin(set);
            queue[0] = set;
            size = 1;
            if (isWanted(set, wanted)) {
                return set;
            }
            for (int i = 0; i < size && i < SETS; i++) {
                int found = lookFrom(queue[i], wanted);
                if (found != 0) {
                    return found;
                }
            }
            return 0;
        }

        private int lookFrom(int set, int wanted) {
            for (int l = 0; l < steps.letters(); l++) {
                int to = steps.after(set, l);
                if (to == 0 || trail.knows(to) || size >= SETS) {
                    continue;
                }
                trail.mark(to, set, l);
                queue[size] = to;
                size++;
                if (isWanted(to, wanted)) {
                    return to;
                }
            }
            return 0;
        }

        private static boolean isWanted(int set, int wanted) {
            return wanted == ANY_ONE ? isOne(set) : set == wanted;
        }

        static boolean isOne(int set) {
            return set > 0 && (set & (set - 1)) == 0;
        }

        int size() {
            return size;
        }

        int found(int i) {
            return i >= 0 && i < size && i < SETS ? queue[i] : 0;
        }

        /** The first of the sets found that has the fewest states. */
        int fewest() {
            int best = found(0);
            for (int i = 1; i < size; i++) {
                if (Integer.bitCount(found(i)) < Integer.bitCount(best)) {
                    best = found(i);
                }
            }
            return best;
        }
    }

    /** Goes from set to set, the cheapest first. */
    private static final class PriceSearch {
        /** Each set gets a sum by each letter once at most, and the first one its 0. */
        private static final int ROOM = SETS * LETTERS + 1;

        private final Steps steps;
        private final Trail trail;
        private final int[] sums = new int[SETS];
        /** A heap, the least ahead: sums and sets as one number, so that like sums stand by their sets. */
        private final int[] keys = new int[ROOM];
        private int size;

        PriceSearch(Steps steps, Trail trail) {
            this.steps = steps;
            this.trail = trail;
        }

        /** The first set of one state that is settled; 0 if none is. */
        int look(Machine m, int set) {
            steps.load(m);
            trail.begin(set);
            Arrays.fill(sums, NONE);
            size = 0;
            reach(set, 0);
            for (int i = 0; i < ROOM && size > 0; i++) {
                int key = takeKey();
                int settled = key & (SETS - 1);
                // a set that got a lower sum since has a key of its own for that one
                if (key >> STATES != sumOf(settled)) {
                    continue;
                }
                if (SetSearch.isOne(settled)) {
                    return settled;
                }
                goOn(m, settled);
            }
            return 0;
        }

        private void goOn(Machine m, int set) {
            for (int l = 0; l < steps.letters(); l++) {
                int to = steps.after(set, l);
                int sum = sumOf(set) + m.priceOf(l);
                if (to != 0 && (sumOf(to) == NONE || sumOf(to) > sum)) {
                    trail.mark(to, set, l);
                    reach(to, sum);
                }
            }
        }

        private void reach(int set, int sum) {
            if (set > 0 && set < SETS) {
                sums[set] = sum;
                addKey(sum * SETS + set);
            }
        }

        int sumOf(int set) {
            return set > 0 && set < SETS ? sums[set] : NONE;
        }

        private void addKey(int key) {
            if (size < 0 || size >= ROOM) {
                return;
            }
            int place = size;
            size++;
            for (int i = 0; i < ROOM && place > 0; i++) {
                int above = (place - 1) / 2;
                if (keys[above] <= key) {
                    break;
                }
                keys[place] = keys[above];
                place = above;
            }
            keys[place] = key;
        }

        private int takeKey() {
            if (size <= 0 || size > ROOM) {
                return 0;
            }
            int least = keys[0];
            size--;
            sink(keys[size]);
            return least;
        }

        /** Puts the key in ahead of all, then below each that is less. */
        private void sink(int key) {
            int place = 0;
            for (int child = 1; child < size && child < ROOM; child = 2 * place + 1) {
                if (child + 1 < size && child + 1 < ROOM && keys[child + 1] < keys[child]) {
                    child++;
                }
                if (keys[child] >= key) {
                    break;
                }
                keys[place] = keys[child];
                place = child;
            }
            keys[place] = key;
        }
    }

    /** The shares of all random words, and of those that are right. */
    private static final class Chances {
        private final Steps steps;
        private final SetSearch search;
        private final long[] now = new long[SETS];
        private final long[] next = new long[SETS];

        Chances(Steps steps, SetSearch search) {
            this.steps = steps;
            this.search = search;
        }

        long right(Machine m, int set, int t) {
            search.look(m, set, SetSearch.ALL);
            Arrays.fill(now, 0);
            Arrays.fill(next, 0);
            if (set > 0 && set < SETS) {
                now[set] = 1;
            }
            for (int i = 0; i < t; i++) {
                spread(m);
            }
            long sum = 0;
            for (int i = 0; i < search.size(); i++) {
                int found = search.found(i);
                if (SetSearch.isOne(found) && found < SETS) {
                    sum += now[found];
                }
            }
            return sum;
        }

        /** One letter more. */
        private void spread(Machine m) {
            for (int i = 0; i < search.size(); i++) {
                int set = search.found(i);
                if (set < 0 || set >= SETS || now[set] == 0) {
                    continue;
                }
                for (int l = 0; l < steps.letters(); l++) {
                    int to = steps.after(set, l);
                    if (to > 0 && to < SETS) {
                        next[to] += now[set] * m.shareOf(l);
                    }
                }
            }
            for (int i = 0; i < search.size(); i++) {
                int set = search.found(i);
                if (set >= 0 && set < SETS) {
                    now[set] = next[set];
                    next[set] = 0;
                }
            }
        }

        long all(Machine m, int t) {
            long shares = 0;
            for (int l = 0; l < m.letters(); l++) {
                shares += m.shareOf(l);
            }
            long product = 1;
            for (int i = 0; i < t; i++) {
                product *= shares;
            }
            return product;
        }
    }

    /** The words that bring two states to one, and those by which their lights tell them apart. */
    private static final class Pairs {
        private final int[] lengths = new int[PAIRS];
        private final int[] queue = new int[PAIRS];
        private int without;

        /** Finds for each two states how long the first word is that brings them to one. */
        void load(Machine m) {
            Arrays.fill(lengths, NONE);
            for (int p = 0; p < m.states(); p++) {
                setLength(p, p, 0);
            }
            without = m.states() * (m.states() - 1) / 2;
            boolean more = true;
            for (int length = 1; length <= PAIRS && more; length++) {
                more = findOf(m, length);
            }
        }

        private boolean findOf(Machine m, int length) {
            boolean any = false;
            for (int p = 0; p < m.states(); p++) {
                for (int q = p + 1; q < m.states(); q++) {
                    if (lengthOf(p, q) == NONE && firstLetter(m, p, q, length) != NONE) {
                        setLength(p, q, length);
                        setLength(q, p, length);
                        without--;
                        any = true;
                    }
                }
            }
            return any;
        }

        /** The first letter of the first word of that length that brings the two to one. */
        private int firstLetter(Machine m, int p, int q, int length) {
            for (int l = 0; l < m.letters(); l++) {
                if (lengthOf(m.target(p, l), m.target(q, l)) == length - 1) {
                    return l;
                }
            }
            return NONE;
        }

        private void setLength(int p, int q, int length) {
            if (p >= 0 && p < STATES && q >= 0 && q < STATES) {
                lengths[p * STATES + q] = length;
            }
        }

        /** NONE also where one of the two is missing. */
        int lengthOf(int p, int q) {
            return p >= 0 && p < STATES && q >= 0 && q < STATES ? lengths[p * STATES + q] : NONE;
        }

        /** How many p below q have no word. */
        int without() {
            return without;
        }

        void giveWord(Machine m, int p, int q, Word word) {
            int length = lengthOf(p, q);
            int from = p;
            int other = q;
            word.resize(length);
            for (int i = 0; i < length; i++) {
                int l = firstLetter(m, from, other, length - i);
                word.put(i, l);
                from = m.target(from, l);
                other = m.target(other, l);
            }
        }

        int lengthApart(Machine m, int p, int q) {
            Arrays.fill(lengths, NONE);
            setLength(p, q, 0);
            queue[0] = p * STATES + q;
            int size = 1;
            for (int i = 0; i < size && i < PAIRS; i++) {
                int from = queue[i] / STATES;
                int other = queue[i] % STATES;
                if (m.lightOf(from) != m.lightOf(other)) {
                    return lengthOf(from, other);
                }
                size = queueNext(m, from, other, size);
            }
            return NONE;
        }

        /** Puts the two that come next, by each letter that both have, behind the size that are queued: the new size. */
        private int queueNext(Machine m, int from, int other, int size) {
            int end = size;
            for (int l = 0; l < m.letters(); l++) {
                int to = m.target(from, l);
                int otherTo = m.target(other, l);
                if (to == NONE || otherTo == NONE || lengthOf(to, otherTo) != NONE || end < 0 || end >= PAIRS) {
                    continue;
                }
                setLength(to, otherTo, lengthOf(from, other) + 1);
                queue[end] = to * STATES + otherTo;
                end++;
            }
            return end;
        }
    }

    /** Words put together of those that bring two states to one. */
    private static final class Greedy {
        private final Steps steps;
        private final Pairs pairs;
        private final Word whole = new Word();
        private final Word best = new Word();
        private final Word tried = new Word();
        private int bestSet;

        Greedy(Steps steps, Pairs pairs) {
            this.steps = steps;
            this.pairs = pairs;
        }

        /** How long the word is that it gives; NONE, and gives none, without success. */
        int run(Machine m, int set, Word word) {
            steps.load(m);
            pairs.load(m);
            whole.clear();
            int now = set;
            for (int turn = 0; turn < STATES && !SetSearch.isOne(now); turn++) {
                choose(m, now);
                if (bestSet == 0 || whole.length() + best.length() > LONGEST) {
                    return NONE;
                }
                for (int i = 0; i < best.length(); i++) {
                    whole.append(best.at(i));
                }
                now = bestSet;
            }
            word.copy(whole);
            return word.length();
        }

        /** Finds the first word by which the whole set goes, and to which set. */
        private void choose(Machine m, int set) {
            bestSet = 0;
            for (int p = 0; p < STATES; p++) {
                for (int q = p + 1; q < STATES; q++) {
                    if ((set >> p & set >> q & 1) != 0) {
                        tryPair(m, set, p, q);
                    }
                }
            }
        }

        private void tryPair(Machine m, int set, int p, int q) {
            int length = pairs.lengthOf(p, q);
            if (length == NONE || (bestSet != 0 && length > best.length())) {
                return;
            }
            pairs.giveWord(m, p, q, tried);
            if (bestSet != 0 && !tried.isAheadOf(best)) {
                return;
            }
            int to = steps.afterWord(set, tried);
            if (to != 0) {
                best.copy(tried);
                bestSet = to;
            }
        }
    }

    /** The kinds of a whole machine. */
    private static final class Kinds {
        private static final int ROUND = 1;
        private static final int SINK = 2;
        private static final int IN_ORDER = 4;
        private static final int SWAP = 8;
        private static final int LOOP = 16;

        private Kinds() {
        }

        static int of(Machine m) {
            int kinds = hasSink(m) ? SINK : 0;
            boolean allInOrder = true;
            boolean allSwap = true;
            for (int l = 0; l < m.letters(); l++) {
                kinds |= isRound(m, l) ? ROUND : 0;
                kinds |= hasLoop(m, l) ? LOOP : 0;
                allInOrder &= isInOrder(m, l);
                allSwap &= isSwap(m, l);
            }
            return kinds | (allInOrder ? IN_ORDER : 0) | (allSwap ? SWAP : 0);
        }

        /** Who comes back to 0 just with the last step has passed each state. */
        private static boolean isRound(Machine m, int l) {
            int state = 0;
            for (int i = 1; i < m.states(); i++) {
                state = m.target(state, l);
                if (state == 0) {
                    return false;
                }
            }
            return m.target(state, l) == 0;
        }

        private static boolean hasLoop(Machine m, int l) {
            for (int state = 0; state < m.states(); state++) {
                if (m.target(state, l) == state) {
                    return true;
                }
            }
            return false;
        }

        private static boolean isInOrder(Machine m, int l) {
            for (int state = 1; state < m.states(); state++) {
                if (m.target(state - 1, l) > m.target(state, l)) {
                    return false;
                }
            }
            return true;
        }

        private static boolean isSwap(Machine m, int l) {
            int led = 0;
            for (int state = 0; state < m.states(); state++) {
                led |= 1 << m.target(state, l);
            }
            return Integer.bitCount(led) == m.states();
        }

        private static boolean hasSink(Machine m) {
            for (int state = 0; state < m.states(); state++) {
                if (staysByAll(m, state) && isReachedByAll(m, state)) {
                    return true;
                }
            }
            return false;
        }

        private static boolean staysByAll(Machine m, int state) {
            for (int l = 0; l < m.letters(); l++) {
                if (m.target(state, l) != state) {
                    return false;
                }
            }
            return true;
        }

        private static boolean isReachedByAll(Machine m, int goal) {
            int reaching = 1 << goal;
            for (int round = 0; round < STATES; round++) {
                for (int state = 0; state < m.states(); state++) {
                    for (int l = 0; l < m.letters(); l++) {
                        if ((reaching >> m.target(state, l) & 1) != 0) {
                            reaching |= 1 << state;
                        }
                    }
                }
            }
            return reaching == (1 << m.states()) - 1;
        }
    }

    /** Exchanges the moves of each state among the letters, till a word brings all states to one. */
    private static final class Colouring {
        /** The orders of four letters; those of fewer are the first ones' last letters, moved down. */
        private static final int[] ORDERS = {
            0, 1, 2, 3, 0, 1, 3, 2, 0, 2, 1, 3, 0, 2, 3, 1, 0, 3, 1, 2, 0, 3, 2, 1,
            1, 0, 2, 3, 1, 0, 3, 2, 1, 2, 0, 3, 1, 2, 3, 0, 1, 3, 0, 2, 1, 3, 2, 0,
            2, 0, 1, 3, 2, 0, 3, 1, 2, 1, 0, 3, 2, 1, 3, 0, 2, 3, 0, 1, 2, 3, 1, 0,
            3, 0, 1, 2, 3, 0, 2, 1, 3, 1, 0, 2, 3, 1, 2, 0, 3, 2, 0, 1, 3, 2, 1, 0};

        private final int[] orders = new int[STATES];
        private final int[] together = new int[STATES];
        private final Machine painted = new Machine(STATES, LETTERS);

        /** The number of the first colouring with a word for all, which the machine then has; NONE if there is none. */
        int paint(Machine m) {
            Arrays.fill(orders, 0);
            for (int state = 0; state < m.states(); state++) {
                exchange(m, state);
            }
            // most machines that no colouring helps are told here, without a look at each
            if (!allComeTogether(m, true)) {
                return NONE;
            }
            for (int number = 0; number < COLOURINGS; number++) {
                if (allComeTogether(m, false)) {
                    takeOver(m);
                    return number;
                }
                if (!turnOn(m)) {
                    return NONE;
                }
            }
            return NONE;
        }

        /** The next colouring: the last state's order changes first. */
        private boolean turnOn(Machine m) {
            int many = ordersOf(m.letters());
            for (int state = m.states() - 1; state >= 0 && state < STATES; state--) {
                orders[state]++;
                boolean more = orders[state] < many;
                if (!more) {
                    orders[state] = 0;
                }
                exchange(m, state);
                if (more) {
                    return true;
                }
            }
            return false;
        }

        private static int ordersOf(int letters) {
            int many = 1;
            for (int i = 2; i <= letters; i++) {
                many *= i;
            }
            return many;
        }

        private void exchange(Machine m, int state) {
            for (int l = 0; l < m.letters(); l++) {
                painted.lead(state, l, m.target(state, letterOf(orderOf(state), l, m.letters())));
            }
        }

        private int orderOf(int state) {
            return state >= 0 && state < STATES ? orders[state] : 0;
        }

        private static int letterOf(int order, int place, int letters) {
            int left = LETTERS - letters;
            int i = order * LETTERS + left + place;
            return i >= 0 && i < ORDERS.length ? ORDERS[i] - left : NONE;
        }

        private void takeOver(Machine m) {
            for (int state = 0; state < m.states(); state++) {
                for (int l = 0; l < m.letters(); l++) {
                    m.lead(state, l, painted.target(state, l));
                }
            }
        }

        /**
         * Whether each two states come together: then, no move missing, one word brings all to one.
         * Free, each of the two goes by a letter of its own, as some colouring may let it.
         */
        private boolean allComeTogether(Machine m, boolean free) {
            for (int p = 0; p < STATES; p++) {
                together[p] = 1 << p;
            }
            int left = m.states() * (m.states() - 1) / 2;
            int before = left + 1;
            for (int sweep = 0; sweep < PAIRS && left > 0 && left < before; sweep++) {
                before = left;
                left -= sweepPairs(m, free);
            }
            return left == 0;
        }

        private int sweepPairs(Machine m, boolean free) {
            int found = 0;
            for (int p = 0; p < m.states() && p < STATES; p++) {
                for (int q = p + 1; q < m.states() && q < STATES; q++) {
                    if ((together[p] >> q & 1) == 0 && comeTogether(m, p, q, free)) {
                        together[p] |= 1 << q;
                        together[q] |= 1 << p;
                        found++;
                    }
                }
            }
            return found;
        }

        private boolean comeTogether(Machine m, int p, int q, boolean free) {
            for (int l = 0; l < m.letters(); l++) {
                int to = painted.target(p, l);
                int reached = free ? targets(m, q) : 1 << painted.target(q, l);
                if (to >= 0 && to < STATES && (together[to] & reached) != 0) {
                    return true;
                }
            }
            return false;
        }

        private static int targets(Machine m, int state) {
            int set = 0;
            for (int l = 0; l < m.letters(); l++) {
                set |= 1 << m.target(state, l);
            }
            return set;
        }
    }
}
