import java.util.Random;

/** Runs of calls, told by a seed, on the class and on the model: each answer and each digest are the same. */
final class ModelTest {
    private static final Checks checks = new Checks("ModelTest");

    private final Random random;
    private final WordBench x = new WordBench();
    private final Model y = new Model();
    private final int most;
    private final String run;

    private ModelTest(int seed, int most) {
        this.random = new Random(seed);
        this.most = most;
        this.run = "seed " + seed + " ";
    }

    public static void main(String[] args) {
        for (int seed = 0; seed < 1500 && !checks.anyWrong(); seed++) {
            new ModelTest(seed, seed % 3 == 0 ? 4 : seed % 3 == 1 ? 6 : 9).play(120);
        }
        for (int seed = 2000; seed < 2060 && !checks.anyWrong(); seed++) {
            new ModelTest(seed, 12).play(60);
        }
        checks.end();
    }

    private void play(int calls) {
        for (int i = 0; i < calls && !checks.anyWrong(); i++) {
            if (i % 20 == 0 && i < 120) {
                fill();
            } else {
                call(random.nextInt(30));
            }
            checks.due(run + "digest", x.digest(), y.digest());
        }
    }

    /** A machine, of one of several sorts, with most of its moves. */
    private void fill() {
        int n = 1 + random.nextInt(most);
        int k = 1 + random.nextInt(4);
        int machine = x.machine(n, k);
        checks.due(run + "machine", machine, y.machine(n, k));
        int sort = random.nextInt(5);
        for (int s = 0; s < n; s++) {
            for (int l = 0; l < k; l++) {
                int to = target(sort, s, l, n);
                checks.due(run + "move", x.move(machine, s, l, to), y.move(machine, s, l, to));
            }
        }
    }

    private int target(int sort, int s, int l, int n) {
        switch (sort) {
            case 0:
                return random.nextInt(n);
            case 1:
                return random.nextInt(6) == 0 ? -1 : random.nextInt(n);
            case 2:
                return l == 0 ? (s + 1) % n : random.nextInt(4) == 0 ? random.nextInt(n) : s;
            case 3:
                return (s * (l + 1) + l) % n;
            default:
                return random.nextInt(5) == 0 ? -1 : l == 0 ? (s + 1) % n : random.nextInt(s + 1);
        }
    }

    private int oddNumber() {
        int[] odd = {-1, -2, 12, 13, 4, 5, 6, 1000, Integer.MAX_VALUE, Integer.MIN_VALUE};
        return odd[random.nextInt(odd.length)];
    }

    private int below(int bound) {
        return random.nextInt(25) == 0 ? oddNumber() : random.nextInt(bound);
    }

    private int states(int machine) {
        return Math.max(1, y.about(machine, 0));
    }

    private int setOf(int machine) {
        return random.nextInt(25) == 0 ? oddNumber() : random.nextInt(3) == 0 ? (1 << states(machine)) - 1
            : random.nextInt(1 << states(machine));
    }

    private void call(int kind) {
        if (kind < 10) {
            change(kind);
        } else if (kind < 20) {
            words(kind);
        } else {
            others(kind);
        }
    }

    private void change(int kind) {
        int m = below(Math.max(1, y.count(0)));
        int s = below(states(m));
        int l = below(Math.max(1, y.about(m, 1)));
        switch (kind) {
            case 0:
                int n = below(13);
                checks.due(run + "ring " + n, x.ring(n), y.ring(n));
                break;
            case 1:
                int states = below(13);
                int letters = below(5);
                checks.due(run + "machine " + states + " " + letters, x.machine(states, letters), y.machine(states, letters));
                break;
            case 2:
            case 3:
                int to = below(states(m) + 1) - 1;
                checks.due(run + "move " + m + " " + s + " " + l + " " + to, x.move(m, s, l, to), y.move(m, s, l, to));
                break;
            case 4:
            case 5:
                int light = below(4);
                checks.due(run + "light " + m + " " + s + " " + light, x.light(m, s, light), y.light(m, s, light));
                break;
            case 6:
            case 7:
                int price = below(21);
                checks.due(run + "price " + m + " " + l + " " + price, x.price(m, l, price), y.price(m, l, price));
                break;
            case 8:
                int share = below(6);
                checks.due(run + "share " + m + " " + l + " " + share, x.share(m, l, share), y.share(m, l, share));
                break;
            default:
                int letter = below(4);
                checks.due(run + "letter " + letter, x.letter(letter), y.letter(letter));
                break;
        }
    }

    private void words(int kind) {
        int m = below(Math.max(1, y.count(0)));
        int set = setOf(m);
        int p = below(states(m));
        int q = below(states(m));
        String told = run + m + " " + set + " " + p + " " + q + " ";
        switch (kind) {
            case 10:
                checks.due(told + "shortest", x.shortest(m, set), y.shortest(m, set));
                break;
            case 11:
                checks.due(told + "shortestTo", x.shortestTo(m, set, q), y.shortestTo(m, set, q));
                break;
            case 12:
                checks.due(told + "rank", x.rank(m, set), y.rank(m, set));
                break;
            case 13:
                checks.due(told + "merge", x.merge(m, p, q), y.merge(m, p, q));
                break;
            case 14:
                checks.due(told + "unmerged", x.unmerged(m), y.unmerged(m));
                break;
            case 15:
            case 16:
                checks.due(told + "greedy", x.greedy(m, set), y.greedy(m, set));
                break;
            case 17:
            case 18:
                checks.due(told + "cheapest", x.cheapest(m, set), y.cheapest(m, set));
                break;
            default:
                checks.due(told + "goes", x.goes(m, set), y.goes(m, set));
                break;
        }
    }

    private void others(int kind) {
        int m = below(Math.max(1, y.count(0)));
        int set = setOf(m);
        int p = below(states(m));
        int q = below(states(m));
        int t = below(13);
        String told = run + m + " " + set + " " + p + " " + q + " " + t + " ";
        switch (kind) {
            case 20:
                checks.due(told + "chance", x.chance(m, set, t), y.chance(m, set, t));
                break;
            case 21:
                checks.due(told + "chances", x.chances(m, t), y.chances(m, t));
                break;
            case 22:
                checks.due(told + "kinds", x.kinds(m), y.kinds(m));
                break;
            case 23:
                checks.due(told + "colour", x.colour(m), y.colour(m));
                break;
            case 24:
            case 25:
                checks.due(told + "apart", x.apart(m, p, q), y.apart(m, p, q));
                break;
            case 26:
                checks.due(told + "about", x.about(m, t - 1), y.about(m, t - 1));
                break;
            case 27:
                checks.due(told + "moveOf", x.moveOf(m, p, q), y.moveOf(m, p, q));
                break;
            case 28:
                checks.due(told + "letterAt", x.letterAt(t), y.letterAt(t));
                checks.due(told + "count", x.count(t - 1), y.count(t - 1));
                break;
            default:
                checks.due(told + "empty", x.empty(), y.empty());
                break;
        }
    }
}
