import java.util.ArrayDeque;
import java.util.ArrayList;
import java.util.HashMap;
import java.util.List;
import java.util.Map;
import java.util.TreeSet;

/** The document once more, as plainly as can be: words are texts, sets are looked at state by state. */
final class Model {
    private static final int NONE = -1, BAD = -2, NO = -3, FULL = -4;

    private static final class M {
        int n;
        int k;
        int[][] to;
        int[] light;
        int[] price;
        int[] share;
    }

    private final List<M> machines = new ArrayList<>();
    private String word = "";

    String word() {
        return word;
    }

    private M at(int i) {
        return i >= 0 && i < machines.size() ? machines.get(i) : null;
    }

    private static boolean in(int v, int from, int to) {
        return v >= from && v <= to;
    }

    private static boolean hasSet(M m, int set) {
        return in(set, 1, (1 << m.n) - 1);
    }

    int machine(int n, int k) {
        if (!in(n, 1, 12) || !in(k, 1, 4)) {
            return BAD;
        }
        if (machines.size() == 6) {
            return FULL;
        }
        M m = new M();
        m.n = n;
        m.k = k;
        m.to = new int[n][k];
        for (int[] row : m.to) {
            java.util.Arrays.fill(row, NONE);
        }
        m.light = new int[n];
        m.price = new int[k];
        m.share = new int[k];
        java.util.Arrays.fill(m.price, 1);
        java.util.Arrays.fill(m.share, 1);
        machines.add(m);
        return machines.size() - 1;
    }

    int ring(int n) {
        if (!in(n, 2, 12)) {
            return BAD;
        }
        int number = machine(n, 2);
        if (number >= 0) {
            M m = at(number);
            for (int s = 0; s < n; s++) {
                m.to[s][0] = (s + 1) % n;
                m.to[s][1] = s;
            }
            m.to[n - 1][1] = 0;
        }
        return number;
    }

    int move(int i, int s, int l, int to) {
        M m = at(i);
        if (m == null || !in(s, 0, m.n - 1) || !in(l, 0, m.k - 1) || !in(to, -1, m.n - 1)) {
            return BAD;
        }
        int was = m.to[s][l];
        m.to[s][l] = to;
        return was;
    }

    int light(int i, int s, int v) {
        M m = at(i);
        if (m == null || !in(s, 0, m.n - 1) || !in(v, 0, 3)) {
            return BAD;
        }
        int was = m.light[s];
        m.light[s] = v;
        return was;
    }

    int price(int i, int l, int v) {
        M m = at(i);
        if (m == null || !in(l, 0, m.k - 1) || !in(v, 1, 20)) {
            return BAD;
        }
        int was = m.price[l];
        m.price[l] = v;
        return was;
    }

    int share(int i, int l, int v) {
        M m = at(i);
        if (m == null || !in(l, 0, m.k - 1) || !in(v, 0, 5)) {
            return BAD;
        }
        int was = m.share[l];
        m.share[l] = v;
        return was;
    }

    private static boolean whole(M m) {
        for (int[] row : m.to) {
            for (int to : row) {
                if (to == NONE) {
                    return false;
                }
            }
        }
        return true;
    }

    int about(int i, int what) {
        M m = at(i);
        if (m == null || !in(what, 0, 2)) {
            return BAD;
        }
        return what == 0 ? m.n : what == 1 ? m.k : whole(m) ? 1 : 0;
    }

    int moveOf(int i, int s, int l) {
        M m = at(i);
        return m == null || !in(s, 0, m.n - 1) || !in(l, 0, m.k - 1) ? BAD : m.to[s][l];
    }

    int empty() {
        int was = word.length();
        word = "";
        return was;
    }

    int letter(int l) {
        if (!in(l, 0, 3)) {
            return BAD;
        }
        if (word.length() == 600) {
            return FULL;
        }
        word += l;
        return word.length();
    }

    int letterAt(int i) {
        return in(i, 0, word.length() - 1) ? word.charAt(i) - '0' : NONE;
    }

    /** 0: the set does not go. */
    private static int step(M m, int set, int l) {
        int to = 0;
        for (int s = 0; s < m.n; s++) {
            if ((set >> s & 1) == 1) {
                if (m.to[s][l] == NONE) {
                    return 0;
                }
                to |= 1 << m.to[s][l];
            }
        }
        return to;
    }

    private static int walk(M m, int set, String w) {
        int to = set;
        for (int i = 0; i < w.length() && to != 0; i++) {
            to = step(m, to, w.charAt(i) - '0');
        }
        return to;
    }

    int goes(int i, int set) {
        M m = at(i);
        if (m == null || !hasSet(m, set)) {
            return BAD;
        }
        for (char c : word.toCharArray()) {
            if (c - '0' >= m.k) {
                return BAD;
            }
        }
        int to = walk(m, set, word);
        return to == 0 ? NONE : to;
    }

    /** The first word to each set that is come to, in the order of these words. */
    private static Map<Integer, String> firstWords(M m, int set) {
        Map<Integer, String> words = new java.util.LinkedHashMap<>();
        ArrayDeque<Integer> queue = new ArrayDeque<>();
        words.put(set, "");
        queue.add(set);
        while (!queue.isEmpty()) {
            int from = queue.remove();
            for (int l = 0; l < m.k; l++) {
                int to = step(m, from, l);
                if (to != 0 && !words.containsKey(to)) {
                    words.put(to, words.get(from) + l);
                    queue.add(to);
                }
            }
        }
        return words;
    }

    private static boolean ahead(String a, String b) {
        return a.length() != b.length() ? a.length() < b.length() : a.compareTo(b) < 0;
    }

    private static String firstRight(M m, int set) {
        String best = null;
        for (Map.Entry<Integer, String> e : firstWords(m, set).entrySet()) {
            if (Integer.bitCount(e.getKey()) == 1 && (best == null || ahead(e.getValue(), best))) {
                best = e.getValue();
            }
        }
        return best;
    }

    private int tell(String w) {
        if (w == null) {
            return NONE;
        }
        if (w.length() <= 600) {
            word = w;
        }
        return w.length();
    }

    int shortest(int i, int set) {
        M m = at(i);
        return m == null || !hasSet(m, set) ? BAD : tell(firstRight(m, set));
    }

    int shortestTo(int i, int set, int q) {
        M m = at(i);
        return m == null || !hasSet(m, set) || !in(q, 0, m.n - 1) ? BAD : tell(firstWords(m, set).get(1 << q));
    }

    int rank(int i, int set) {
        M m = at(i);
        if (m == null || !hasSet(m, set)) {
            return BAD;
        }
        String best = null;
        int fewest = 99;
        for (Map.Entry<Integer, String> e : firstWords(m, set).entrySet()) {
            int many = Integer.bitCount(e.getKey());
            if (many < fewest || (many == fewest && ahead(e.getValue(), best))) {
                fewest = many;
                best = e.getValue();
            }
        }
        tell(best);
        return fewest;
    }

    int merge(int i, int p, int q) {
        M m = at(i);
        if (m == null || !in(p, 0, m.n - 1) || !in(q, 0, m.n - 1) || p == q) {
            return BAD;
        }
        String w = firstRight(m, 1 << p | 1 << q);
        return w == null ? NONE : w.length();
    }

    int unmerged(int i) {
        M m = at(i);
        if (m == null) {
            return BAD;
        }
        int many = 0;
        for (int p = 0; p < m.n; p++) {
            for (int q = p + 1; q < m.n; q++) {
                many += firstRight(m, 1 << p | 1 << q) == null ? 1 : 0;
            }
        }
        return many;
    }

    int greedy(int i, int set) {
        M m = at(i);
        if (m == null || !hasSet(m, set)) {
            return BAD;
        }
        String all = "";
        for (int now = set; Integer.bitCount(now) > 1; now = walk(m, set, all)) {
            String best = null;
            for (int p = 0; p < m.n; p++) {
                for (int q = p + 1; q < m.n; q++) {
                    if ((now >> p & 1) == 1 && (now >> q & 1) == 1) {
                        String w = firstRight(m, 1 << p | 1 << q);
                        boolean so = w != null && walk(m, now, w) != 0;
                        best = so && (best == null || ahead(w, best)) ? w : best;
                    }
                }
            }
            if (best == null) {
                return NONE;
            }
            all += best;
        }
        if (all.length() > 600) {
            return NONE;
        }
        word = all;
        return all.length();
    }

    int cheapest(int i, int set) {
        M m = at(i);
        if (m == null || !hasSet(m, set)) {
            return BAD;
        }
        Map<Integer, Integer> sums = new HashMap<>();
        Map<Integer, Integer> before = new HashMap<>();
        Map<Integer, Integer> by = new HashMap<>();
        TreeSet<Integer> open = new TreeSet<>();
        java.util.Set<Integer> settled = new java.util.HashSet<>();
        sums.put(set, 0);
        open.add(set);
        while (!open.isEmpty()) {
            int least = open.first();
            for (int s : open) {
                least = sums.get(s) < sums.get(least) ? s : least;
            }
            open.remove(least);
            settled.add(least);
            if (Integer.bitCount(least) == 1) {
                StringBuilder w = new StringBuilder();
                for (int s = least; s != set; s = before.get(s)) {
                    w.append(by.get(s));
                }
                tell(w.reverse().toString());
                return sums.get(least);
            }
            for (int l = 0; l < m.k; l++) {
                int to = step(m, least, l);
                int sum = sums.get(least) + m.price[l];
                if (to != 0 && !settled.contains(to) && (!sums.containsKey(to) || sums.get(to) > sum)) {
                    sums.put(to, sum);
                    before.put(to, least);
                    by.put(to, l);
                    open.add(to);
                }
            }
        }
        return NONE;
    }

    long chance(int i, int set, int t) {
        M m = at(i);
        return m == null || !hasSet(m, set) || !in(t, 0, 12) ? BAD : products(m, set, t, new HashMap<>());
    }

    private static long products(M m, int set, int t, Map<Integer, Long> known) {
        if (set == 0) {
            return 0;
        }
        if (t == 0) {
            return Integer.bitCount(set) == 1 ? 1 : 0;
        }
        Long old = known.get(set * 16 + t);
        if (old != null) {
            return old;
        }
        long sum = 0;
        for (int l = 0; l < m.k; l++) {
            sum += m.share[l] * products(m, step(m, set, l), t - 1, known);
        }
        known.put(set * 16 + t, sum);
        return sum;
    }

    long chances(int i, int t) {
        M m = at(i);
        if (m == null || !in(t, 0, 12)) {
            return BAD;
        }
        long w = 1;
        for (int j = 0; j < t; j++) {
            w *= java.util.Arrays.stream(m.share).sum();
        }
        return w;
    }

    int kinds(int i) {
        M m = at(i);
        if (m == null) {
            return BAD;
        }
        if (!whole(m)) {
            return NO;
        }
        boolean round = false;
        boolean inOrder = true;
        boolean swap = true;
        boolean loop = false;
        for (int l = 0; l < m.k; l++) {
            int seen = 0;
            for (int s = m.to[0][l], j = 0; j < m.n; j++, s = m.to[s][l]) {
                seen |= 1 << s;
            }
            round |= seen == (1 << m.n) - 1;
            for (int p = 0; p < m.n; p++) {
                loop |= m.to[p][l] == p;
                for (int q = p + 1; q < m.n; q++) {
                    inOrder &= m.to[p][l] <= m.to[q][l];
                    swap &= m.to[p][l] != m.to[q][l];
                }
            }
        }
        return (round ? 1 : 0) + (sink(m) ? 2 : 0) + (inOrder ? 4 : 0) + (swap ? 8 : 0) + (loop ? 16 : 0);
    }

    private static boolean sink(M m) {
        for (int s = 0; s < m.n; s++) {
            boolean is = true;
            for (int l = 0; l < m.k; l++) {
                is &= m.to[s][l] == s;
            }
            for (int from = 0; from < m.n; from++) {
                is = is && firstWords(m, 1 << from).containsKey(1 << s);
            }
            if (is) {
                return true;
            }
        }
        return false;
    }

    private static List<String> orders(String begun, int k) {
        List<String> all = new ArrayList<>();
        if (begun.length() == k) {
            all.add(begun);
        }
        for (int l = 0; l < k && begun.length() < k; l++) {
            if (begun.indexOf('0' + l) < 0) {
                all.addAll(orders(begun + l, k));
            }
        }
        return all;
    }

    int colour(int i) {
        M m = at(i);
        if (m == null) {
            return BAD;
        }
        if (!whole(m)) {
            return NO;
        }
        List<String> orders = orders("", m.k);
        M tried = new M();
        tried.n = m.n;
        tried.k = m.k;
        tried.to = new int[m.n][m.k];
        for (int number = 0; number < 1500; number++) {
            long rest = number;
            for (int s = m.n - 1; s >= 0; s--) {
                String order = orders.get((int) (rest % orders.size()));
                rest /= orders.size();
                for (int l = 0; l < m.k; l++) {
                    tried.to[s][l] = m.to[s][order.charAt(l) - '0'];
                }
            }
            if (rest > 0) {
                return NONE;
            }
            if (firstRight(tried, (1 << m.n) - 1) != null) {
                m.to = tried.to;
                return number;
            }
        }
        return NONE;
    }

    int apart(int i, int p, int q) {
        M m = at(i);
        if (m == null || !in(p, 0, m.n - 1) || !in(q, 0, m.n - 1)) {
            return BAD;
        }
        Map<String, Integer> seen = new HashMap<>();
        ArrayDeque<int[]> queue = new ArrayDeque<>();
        queue.add(new int[] {p, q, 0});
        while (!queue.isEmpty()) {
            int[] now = queue.remove();
            if (m.light[now[0]] != m.light[now[1]]) {
                return now[2];
            }
            if (seen.put(now[0] + " " + now[1], now[2]) != null) {
                continue;
            }
            for (int l = 0; l < m.k; l++) {
                if (m.to[now[0]][l] != NONE && m.to[now[1]][l] != NONE) {
                    queue.add(new int[] {m.to[now[0]][l], m.to[now[1]][l], now[2] + 1});
                }
            }
        }
        return NONE;
    }

    int count(int what) {
        return what == 0 ? machines.size() : what == 1 ? word.length() : BAD;
    }

    long digest() {
        List<Integer> row = new ArrayList<>();
        for (M m : machines) {
            row.add(m.n);
            row.add(m.k);
            row.add(whole(m) ? 1 : 0);
            for (int s = 0; s < m.n; s++) {
                for (int to : m.to[s]) {
                    row.add(to);
                }
                row.add(m.light[s]);
            }
            for (int l = 0; l < m.k; l++) {
                row.add(m.price[l]);
                row.add(m.share[l]);
            }
        }
        row.add(word.length());
        for (char c : word.toCharArray()) {
            row.add(c - '0');
        }
        long h = 163;
        for (int v : row) {
            h = 31 * h + v;
        }
        return h;
    }
}
