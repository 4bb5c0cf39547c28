/** Counts the answers of one test that are not as due, and ends it. */
final class Checks {
    /**
     * From the set 630 it is 633 letters to a set of one state: no word so long may become the word.
     * From the set 1866 it is just 600, from the set 2409 one more.
     */
    static final int[][] FAR = {
        {6, 9, 8}, {5, 7, 2}, {0, -1, 9}, {3, 7, 3}, {2, 11, 0}, {1, 3, -1},
        {8, -1, 10}, {11, -1, -1}, {10, -1, 6}, {4, 8, -1}, {7, -1, -1}, {9, 10, 5}};

    private final String name;
    private int seen;
    private int wrong;

    Checks(String name) {
        this.name = name;
    }

    void due(String what, long got, long want) {
        seen++;
        if (got != want) {
            wrong++;
            System.out.println(what + ": answered " + got + ", due is " + want);
        }
    }

    void holds(String what, boolean so) {
        due(what, so ? 1 : 0, 1);
    }

    boolean anyWrong() {
        return wrong > 0;
    }

    void end() {
        System.out.println(name + ": " + seen + " checks, " + wrong + " wrong");
        if (wrong > 0 || seen == 0) {
            System.exit(1);
        }
    }

    /** A machine with moves[state][letter]. */
    static int machineOf(WordBench x, int[][] moves) {
        int number = x.machine(moves.length, moves[0].length);
        for (int state = 0; state < moves.length; state++) {
            for (int l = 0; l < moves[state].length; l++) {
                x.move(number, state, l, moves[state][l]);
            }
        }
        return number;
    }

    /** The word as a row of digits. */
    static String wordOf(WordBench x) {
        StringBuilder row = new StringBuilder();
        int length = x.count(1);
        for (int i = 0; i < length; i++) {
            row.append(x.letterAt(i));
        }
        return row.toString();
    }

    void dueWord(String what, WordBench x, String want) {
        String got = wordOf(x);
        seen++;
        if (!got.equals(want)) {
            wrong++;
            System.out.println(what + ": the word is " + got + ", due is " + want);
        }
    }
}
