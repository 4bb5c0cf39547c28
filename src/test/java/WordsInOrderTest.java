import java.util.Random;

/**
 * Goes through all words of small machines in the document's order, one by one and none left out, and looks which is the
 * first that does what a call asks for: nothing here searches from set to set, as the class and the model do.
 */
final class WordsInOrderTest {
    private static final int NONE = -1;
    private static final int TIMES = 6;
    private static final Checks checks = new Checks("WordsInOrderTest");

    private final int n;
    private final int k;
    private final int[][] moves;
    private final int[] lights;
    private final int[] prices;
    private final int[] shares;
    private final String told;
    /** A shortest word comes to no set twice. */
    private final int most;

    private WordsInOrderTest(int seed, int n, int k) {
        Random random = new Random(seed);
        this.n = n;
        this.k = k;
        this.most = (1 << n) - 2;
        this.told = "seed " + seed + ", " + n + " states, " + k + " letters, ";
        this.moves = new int[n][k];
        this.lights = new int[n];
        this.prices = new int[k];
        this.shares = new int[k];
        int missing = random.nextInt(4);
        for (int s = 0; s < n; s++) {
            for (int l = 0; l < k; l++) {
                moves[s][l] = random.nextInt(12) < missing ? NONE : random.nextInt(3) == 0 ? (s + 1) % n : random.nextInt(n);
            }
            lights[s] = random.nextInt(3) == 0 ? random.nextInt(4) : 0;
        }
        for (int l = 0; l < k; l++) {
            prices[l] = 1 + random.nextInt(20);
            shares[l] = random.nextInt(6);
        }
    }

    public static void main(String[] args) {
        for (int seed = 0; seed < 80 && !checks.anyWrong(); seed++) {
            new WordsInOrderTest(seed, 4, 2).look();
            new WordsInOrderTest(seed, 3, 3).look();
            new WordsInOrderTest(seed, 3, 4).look();
            new WordsInOrderTest(seed, 2, 4).look();
            new WordsInOrderTest(seed, 4, 1).look();
        }
        checks.end();
    }

    private WordBench bench() {
        WordBench x = new WordBench();
        Checks.machineOf(x, moves);
        for (int s = 0; s < n; s++) {
            x.light(0, s, lights[s]);
        }
        for (int l = 0; l < k; l++) {
            x.price(0, l, prices[l]);
            x.share(0, l, shares[l]);
        }
        x.letter(3);
        x.letter(0);
        return x;
    }

    private void look() {
        for (int set = 1; set < 1 << n; set++) {
            lookFrom(set);
            lookCheapest(set);
            lookChances(set);
            lookGreedy(set);
        }
        int unmerged = 0;
        for (int p = 0; p < n; p++) {
            for (int q = 0; q < n; q++) {
                if (p != q) {
                    String first = firstRight(1 << p | 1 << q);
                    unmerged += p < q && first == null ? 1 : 0;
                    checks.due(told + "merge " + p + " " + q, bench().merge(0, p, q), first == null ? NONE : first.length());
                }
                checks.due(told + "apart " + p + " " + q, bench().apart(0, p, q), firstApart(p, q));
            }
        }
        checks.due(told + "unmerged", bench().unmerged(0), unmerged);
    }

    /** To which sets a set goes by all words of one length more, in order; 0 where it does not. */
    private int[] longer(int[] sets) {
        int[] next = new int[sets.length * k];
        for (int i = 0; i < next.length; i++) {
            next[i] = step(sets[i / k], i % k);
        }
        return next;
    }

    private int step(int set, int l) {
        int to = 0;
        for (int s = 0; s < n; s++) {
            if ((set >> s & 1) != 0) {
                if (moves[s][l] == NONE) {
                    return 0;
                }
                to |= 1 << moves[s][l];
            }
        }
        return to;
    }

    private int walk(int set, String word) {
        int to = set;
        for (int i = 0; i < word.length(); i++) {
            to = step(to, word.charAt(i) - '0');
        }
        return to;
    }

    /** The word of that length that so many others of it are ahead of. */
    private String word(int length, int number) {
        StringBuilder row = new StringBuilder();
        int rest = number;
        for (int i = 0; i < length; i++) {
            row.append((char) ('0' + rest % k));
            rest /= k;
        }
        return row.reverse().toString();
    }

    private String firstRight(int set) {
        int[] sets = {set};
        for (int length = 0; length <= most; length++) {
            for (int i = 0; i < sets.length; i++) {
                if (Integer.bitCount(sets[i]) == 1) {
                    return word(length, i);
                }
            }
            sets = longer(sets);
        }
        return null;
    }

    private void lookFrom(int set) {
        String right = null;
        String few = null;
        int fewest = n + 1;
        String[] to = new String[n];
        int[] sets = {set};
        for (int length = 0; length <= most; length++) {
            for (int i = 0; i < sets.length; i++) {
                int many = Integer.bitCount(sets[i]);
                if (many > 0 && many < fewest) {
                    fewest = many;
                    few = word(length, i);
                }
                if (many == 1) {
                    int q = Integer.numberOfTrailingZeros(sets[i]);
                    right = right == null ? word(length, i) : right;
                    to[q] = to[q] == null ? word(length, i) : to[q];
                }
            }
            sets = longer(sets);
        }
        WordBench x = bench();
        dueFirst("shortest " + set, x, x.shortest(0, set), right);
        for (int q = 0; q < n; q++) {
            WordBench y = bench();
            dueFirst("shortestTo " + set + " " + q, y, y.shortestTo(0, set, q), to[q]);
        }
        WordBench z = bench();
        checks.due(told + "rank " + set, z.rank(0, set), fewest);
        checks.dueWord(told + "rank " + set, z, few);
        checks.due(told + "goes to so few", Integer.bitCount(z.goes(0, set)), fewest);
    }

    private void dueFirst(String what, WordBench x, int got, String want) {
        checks.due(told + what, got, want == null ? NONE : want.length());
        checks.dueWord(told + what, x, want == null ? "30" : want);
    }

    private int sumOf(String word) {
        int sum = 0;
        for (int i = 0; i < word.length(); i++) {
            sum += prices[word.charAt(i) - '0'];
        }
        return sum;
    }

    private void lookCheapest(int set) {
        int least = NONE;
        int[] sets = {set};
        for (int length = 0; length <= most; length++) {
            for (int i = 0; i < sets.length; i++) {
                if (Integer.bitCount(sets[i]) == 1) {
                    int sum = sumOf(word(length, i));
                    least = least == NONE || sum < least ? sum : least;
                }
            }
            sets = longer(sets);
        }
        WordBench x = bench();
        checks.due(told + "cheapest " + set, x.cheapest(0, set), least);
        if (least == NONE) {
            checks.dueWord(told + "cheapest " + set, x, "30");
            return;
        }
        String found = Checks.wordOf(x);
        checks.due(told + "the sum of " + found, sumOf(found), least);
        checks.due(told + found + " is right", Integer.bitCount(walk(set, found)), 1);
    }

    private void lookChances(int set) {
        WordBench x = bench();
        int[] sets = {set};
        for (int t = 0; t <= TIMES; t++) {
            long right = 0;
            long all = 0;
            for (int i = 0; i < sets.length; i++) {
                long product = 1;
                for (char l : word(t, i).toCharArray()) {
                    product *= shares[l - '0'];
                }
                all += product;
                right += Integer.bitCount(sets[i]) == 1 ? product : 0;
            }
            checks.due(told + "chance " + set + " " + t, x.chance(0, set, t), right);
            checks.due(told + "chances " + t, x.chances(0, t), all);
            sets = longer(sets);
        }
    }

    private void lookGreedy(int set) {
        StringBuilder all = new StringBuilder();
        int now = set;
        while (Integer.bitCount(now) > 1) {
            String best = null;
            for (int pair = 3; pair <= now; pair++) {
                String first = Integer.bitCount(pair) == 2 && (pair & now) == pair ? firstRight(pair) : null;
                if (first != null && walk(now, first) != 0 && (best == null || isAhead(first, best))) {
                    best = first;
                }
            }
            if (best == null) {
                break;
            }
            all.append(best);
            now = walk(now, best);
        }
        WordBench x = bench();
        dueFirst("greedy " + set, x, x.greedy(0, set), Integer.bitCount(now) > 1 ? null : all.toString());
    }

    private static boolean isAhead(String word, String other) {
        return word.length() != other.length() ? word.length() < other.length() : word.compareTo(other) < 0;
    }

    /** How long the first word is on which the two states' lights differ: no longer than there are pairs of states. */
    private int firstApart(int p, int q) {
        int[] ps = {p};
        int[] qs = {q};
        for (int length = 0; length <= n * (n - 1) / 2; length++) {
            for (int i = 0; i < ps.length; i++) {
                if (ps[i] != NONE && qs[i] != NONE && lights[ps[i]] != lights[qs[i]]) {
                    return length;
                }
            }
            int[] nextPs = new int[ps.length * k];
            int[] nextQs = new int[ps.length * k];
            for (int i = 0; i < nextPs.length; i++) {
                boolean on = ps[i / k] != NONE && qs[i / k] != NONE;
                nextPs[i] = on ? moves[ps[i / k]][i % k] : NONE;
                nextQs[i] = on ? moves[qs[i / k]][i % k] : NONE;
            }
            ps = nextPs;
            qs = nextQs;
        }
        return NONE;
    }
}
