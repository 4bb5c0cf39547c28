import java.math.BigInteger;
import java.util.ArrayList;
import java.util.Arrays;
import java.util.List;

/** The edges that the document names for promises 23 to 27 (kinds, colourings, lights, counts, digest), each a test of its own. */
final class EdgesOfKindsTest {
    private static final int NONE = Edges.NONE, BAD = Edges.BAD, NO = Edges.NO, FULL = Edges.FULL;
    private static final int MIN = Edges.MIN, MAX = Edges.MAX;
    private static final int ROUND = 1, SINK = 2, IN_ORDER = 4, SWAP = 8, LOOP = 16;

    private EdgesOfKindsTest() {
    }

    public static void main(String[] args) throws ReflectiveOperationException {
        Edges.run(EdgesOfKindsTest.class, 23, 27);
    }

    /** How the states are led by one letter. */
    private static int[][] byOne(int... to) {
        int[][] moves = new int[to.length][1];
        for (int state = 0; state < to.length; state++) {
            moves[state][0] = to[state];
        }
        return moves;
    }

    private static boolean is(int kind, int[][] moves) {
        return (Edges.with(moves).kinds(0) & kind) != 0;
    }

    private static void dueKind(String what, int kind, boolean due, int[][] moves) {
        Edges.due(what, is(kind, moves) ? 1 : 0, due ? 1 : 0);
    }

    /** All letters lead each state to the one told for it, but the last letter leads one state elsewhere. */
    private static int[][] allButOne(int[] to, int k, int state, int elsewhere) {
        int[][] moves = new int[to.length][k];
        for (int s = 0; s < to.length; s++) {
            for (int l = 0; l < k; l++) {
                moves[s][l] = s == state && l == k - 1 ? elsewhere : to[s];
            }
        }
        return moves;
    }

    private static int[] toNext(int n) {
        int[] to = new int[n];
        for (int s = 0; s < n; s++) {
            to[s] = (s + 1) % n;
        }
        return to;
    }

    private static int[] toThemselves(int n) {
        int[] to = new int[n];
        for (int s = 0; s < n; s++) {
            to[s] = s;
        }
        return to;
    }

    // ---- 23: kinds

    static void promise23MachinesThatAreThere() {
        Edges.machines((x, v) -> x.kinds(v));
    }

    static void promise23OfThatMachine() {
        WordBench x = new WordBench();
        int[][] to = {{0}, {1, 0}, {0, 0}, {2, 0, 2}, {1, 2, 1}, {0, 1}};
        int[] due = {31, ROUND + SWAP, SINK + IN_ORDER + LOOP, SINK + LOOP, 0, IN_ORDER + SWAP + LOOP};
        for (int i = 0; i < 6; i++) {
            Checks.machineOf(x, byOne(to[i]));
        }
        for (int i = 0; i < 6; i++) {
            Edges.due("machine " + i, x.kinds(i), due[i]);
        }
    }

    static void promise23NoWithNoMoves() {
        for (int n : new int[] {1, 2, 12}) {
            for (int k = 1; k <= 4; k++) {
                WordBench x = new WordBench();
                x.machine(n, k);
                Edges.dueUnchanged(n + " " + k, x, (y, v) -> y.kinds(v), 0, NO);
            }
        }
    }

    static void promise23NoWithOneMissing() {
        for (int i = 0; i < 48; i++) {
            WordBench x = Edges.whole(12, 4);
            x.move(0, i / 4, i % 4, NONE);
            Edges.due("without move " + i, x.kinds(0), NO);
            x.move(0, i / 4, i % 4, 0);
            Edges.holds("with it again", x.kinds(0) >= 0);
        }
    }

    static void promise23BadAheadOfNo() {
        WordBench x = new WordBench();
        x.machine(2, 1);
        Edges.due("not whole", x.kinds(0), NO);
        for (int v : new int[] {MIN, -1, 1, 6, MAX}) {
            Edges.dueUnchanged("machine " + v, x, (y, w) -> y.kinds(w), v, BAD);
        }
    }

    static void promise23AnotherMachineMayHaveMovesMissing() {
        WordBench x = new WordBench();
        x.machine(2, 1);
        x.ring(2);
        Edges.due("that one", x.kinds(0), NO);
        Edges.due("this one", x.kinds(1), ROUND + LOOP);
    }

    static void promise23AllKindsOfOneState() {
        for (int k = 1; k <= 4; k++) {
            Edges.due("letters " + k, Edges.whole(1, k).kinds(0), 31);
        }
    }

    static void promise23NoKind() {
        Edges.due("none", Edges.with(byOne(1, 2, 1)).kinds(0), 0);
    }

    static void promise23ChangesNothing() {
        WordBench x = Edges.ringOf(3);
        x.letter(3);
        Edges.dueUnchanged("a ring", x, (y, v) -> y.kinds(v), 0, ROUND + LOOP);
    }

    static void promise23RoundOneRing() {
        for (int n = 1; n <= 12; n++) {
            dueKind("all " + n, ROUND, true, allButOne(toNext(n), 1, -1, 0));
            if (n > 1) {
                dueKind("the last one to itself " + n, ROUND, false, allButOne(toNext(n), 1, n - 1, n - 1));
                dueKind("the first one to itself " + n, ROUND, false, allButOne(toNext(n), 1, 0, 0));
            }
        }
    }

    static void promise23RoundNotTwoRings() {
        dueKind("of two and two", ROUND, false, byOne(1, 0, 3, 2));
        dueKind("of one and two", ROUND, false, byOne(0, 2, 1));
        dueKind("of eleven and one", ROUND, false, byOne(1, 2, 3, 4, 5, 6, 7, 8, 9, 10, 0, 11));
        dueKind("of six and six", ROUND, false, byOne(1, 2, 3, 4, 5, 0, 7, 8, 9, 10, 11, 6));
    }

    static void promise23RoundNotWithATail() {
        dueKind("state 0 is not come to", ROUND, false, byOne(1, 2, 1));
        dueKind("the last one is not come to", ROUND, false, byOne(1, 2, 0, 0));
    }

    static void promise23RoundInAnyOrder() {
        dueKind("not by numbers", ROUND, true, byOne(3, 0, 1, 4, 2));
        dueKind("backwards", ROUND, true, byOne(4, 0, 1, 2, 3));
    }

    static void promise23RoundBySomeLetter() {
        dueKind("the last one alone", ROUND, true, new int[][] {{0, 0, 0, 1}, {0, 0, 1, 2}, {0, 0, 2, 0}});
        dueKind("the first one alone", ROUND, true, new int[][] {{1, 0}, {2, 0}, {0, 0}});
        dueKind("no one alone, both together", ROUND, false, new int[][] {{1, 0}, {0, 2}, {2, 1}});
    }

    static void promise23SinkAtEachState() {
        for (int n = 1; n <= 12; n++) {
            for (int sink = 0; sink < n; sink++) {
                int[] to = new int[n];
                Arrays.fill(to, sink);
                dueKind(sink + " of " + n, SINK, true, allButOne(to, 2, -1, 0));
            }
        }
    }

    static void promise23SinkByAllLetters() {
        for (int k = 1; k <= 4; k++) {
            dueKind("all " + k, SINK, true, allButOne(new int[] {0, 0, 0}, k, -1, 0));
            dueKind("but the last of " + k, SINK, false, allButOne(new int[] {0, 0, 0}, k, 0, 1));
        }
    }

    static void promise23SinkFromEachState() {
        dueKind("two of them", SINK, false, byOne(0, 1, 0));
        dueKind("none of them", SINK, false, byOne(1, 0, 0));
        dueKind("a ring that never comes there", SINK, false, byOne(0, 2, 1));
        dueKind("by one letter's way out of the ring", SINK, true, new int[][] {{0, 0}, {2, 2}, {1, 0}});
    }

    static void promise23SinkFromFarOff() {
        int[] down = {0, 0, 1, 2, 3, 4, 5, 6, 7, 8, 9, 10};
        int[] up = {1, 2, 3, 4, 5, 6, 7, 8, 9, 10, 11, 11};
        dueKind("down to state 0", SINK, true, byOne(down));
        dueKind("up to state 11", SINK, true, byOne(up));
        dueKind("by letters in turn", SINK, true, new int[][] {{0, 0}, {2, 0}, {2, 3}, {4, 3}, {4, 1}});
    }

    static void promise23InOrderWhereTheyAreLike() {
        dueKind("all to one", IN_ORDER, true, byOne(1, 1, 1));
        dueKind("all to themselves", IN_ORDER, true, allButOne(toThemselves(12), 4, -1, 0));
        dueKind("up to the last", IN_ORDER, true, byOne(0, 0, 3, 3));
    }

    static void promise23InOrderByEachTwo() {
        for (int n = 2; n <= 12; n++) {
            for (int state = 0; state < n - 1; state++) {
                dueKind(state + " and the next of " + n, IN_ORDER, false, exchanged(n, 1, state));
            }
        }
        dueKind("the first and the last", IN_ORDER, false, byOne(2, 2, 1));
    }

    static void promise23InOrderByEachLetter() {
        for (int k = 1; k <= 4; k++) {
            dueKind("but the last of " + k, IN_ORDER, false, exchanged(2, k, 0));
        }
        dueKind("but the first", IN_ORDER, false, new int[][] {{1, 0}, {0, 1}});
    }

    /** All letters lead each state to itself, but the last letter that state and the next one to each other. */
    private static int[][] exchanged(int n, int k, int state) {
        int[][] moves = allButOne(toThemselves(n), k, state, state + 1);
        moves[state + 1][k - 1] = state;
        return moves;
    }

    static void promise23SwapByAllLetters() {
        for (int k = 1; k <= 4; k++) {
            dueKind("all " + k, SWAP, true, allButOne(toNext(12), k, -1, 0));
            dueKind("but one move of the last of " + k, SWAP, false, allButOne(toNext(12), k, 11, 1));
            dueKind("but one move of the last, away from 11, of " + k, SWAP, false, allButOne(toNext(12), k, 0, 0));
        }
        dueKind("but the first", SWAP, false, new int[][] {{0, 0}, {0, 1}});
    }

    static void promise23SwapOfTheFewest() {
        dueKind("one state", SWAP, true, byOne(0));
        dueKind("two, to themselves", SWAP, true, byOne(0, 1));
        dueKind("two, to each other", SWAP, true, byOne(1, 0));
        dueKind("two to one", SWAP, false, byOne(1, 1));
    }

    static void promise23LoopBySomeLetterOfSomeState() {
        for (int n = 2; n <= 12; n++) {
            for (int k = 1; k <= 4; k++) {
                dueKind("none", LOOP, false, allButOne(toNext(n), k, -1, 0));
                for (int state = 0; state < n; state++) {
                    dueKind(state + " by the last", LOOP, true, allButOne(toNext(n), k, state, state));
                }
            }
        }
        dueKind("by the first", LOOP, true, new int[][] {{1, 1}, {1, 0}});
    }

    static void promise23KindsOfEachRing() {
        for (int n = 2; n <= 12; n++) {
            Edges.due("ring " + n, Edges.ringOf(n).kinds(0), ROUND + LOOP);
        }
    }

    // ---- 24: colour

    static void promise24MachinesThatAreThere() {
        Edges.machines((x, v) -> x.colour(v));
    }

    static void promise24NoWithMovesMissing() {
        for (int i = 0; i < 6; i++) {
            WordBench x = Edges.whole(3, 2);
            x.move(0, i / 2, i % 2, NONE);
            Edges.dueUnchanged("without move " + i, x, (y, v) -> y.colour(v), 0, NO);
        }
        WordBench none = new WordBench();
        none.machine(1, 1);
        Edges.dueUnchanged("with no moves", none, (y, v) -> y.colour(v), 0, NO);
    }

    static void promise24BadAheadOfNo() {
        WordBench x = new WordBench();
        x.machine(2, 1);
        for (int v : new int[] {MIN, -1, 1, 6, MAX}) {
            Edges.dueUnchanged("machine " + v, x, (y, w) -> y.colour(w), v, BAD);
        }
    }

    static void promise24OneStateIsAsItIs() {
        for (int k = 1; k <= 4; k++) {
            Edges.dueUnchanged("letters " + k, Edges.whole(1, k), (x, v) -> x.colour(v), 0, 0);
        }
    }

    static void promise24TheFirstOneChangesNothing() {
        for (int n = 2; n <= 12; n++) {
            Edges.dueUnchanged("ring " + n, Edges.ringOf(n), (x, v) -> x.colour(v), 0, 0);
        }
    }

    static void promise24OfOneLetterThereIsOne() {
        Edges.dueUnchanged("to one state", Edges.with(byOne(0, 0, 1)), (x, v) -> x.colour(v), 0, 0);
        Edges.dueUnchanged("round a ring", Edges.with(byOne(1, 2, 0)), (x, v) -> x.colour(v), 0, NONE);
        Edges.dueUnchanged("to two states", Edges.with(byOne(0, 1, 0)), (x, v) -> x.colour(v), 0, NONE);
    }

    static void promise24NoneItsMovesStay() {
        // round and round by each letter, whatever the order
        int[][] moves = new int[12][4];
        for (int s = 0; s < 12; s++) {
            for (int l = 0; l < 4; l++) {
                moves[s][l] = s < 6 ? 6 + (s + l) % 6 : (s + l) % 6;
            }
        }
        WordBench x = Edges.with(moves);
        Edges.spell(x, "32");
        Edges.dueUnchanged("the two halves never meet", x, (y, v) -> y.colour(v), 0, NONE);
        Edges.dueUnchanged("two that stay", Edges.with(new int[][] {{0, 0}, {1, 1}}), (y, v) -> y.colour(v), 0, NONE);
    }

    static void promise24FoundTheWordLightsPricesSharesStay() {
        WordBench x = Edges.with(new int[][] {{1, 0}, {2, 1}, {0, 2}});
        Edges.spell(x, "302");
        x.light(0, 2, 3);
        x.price(0, 1, 20);
        x.share(0, 0, 5);
        Edges.due("found", x.colour(0), 1);
        Edges.dueWord("the word", x, "302");
        Edges.due("light", x.light(0, 2, 0), 3);
        Edges.due("price", x.price(0, 1, 1), 20);
        Edges.due("share", x.share(0, 0, 1), 5);
    }

    static void promise24AnotherMachineStays() {
        WordBench x = new WordBench();
        Checks.machineOf(x, new int[][] {{1, 0}, {2, 1}, {0, 2}});
        Checks.machineOf(x, new int[][] {{1, 0}, {2, 1}, {0, 2}});
        Edges.due("found", x.colour(1), 1);
        Edges.due("that one's move", x.moveOf(1, 2, 0), 2);
        Edges.due("this one's move", x.moveOf(0, 2, 0), 0);
    }

    static void promise24OnceMoreFromThere() {
        WordBench x = Edges.with(new int[][] {{1, 0}, {2, 1}, {0, 2}});
        Edges.due("found", x.colour(0), 1);
        Edges.dueUnchanged("as it is now", x, (y, v) -> y.colour(v), 0, 0);
    }

    /** Two states come to one just if state 1 has an order that brings its odd move to another letter. */
    private static void dueOrder(String what, int[][] moves, int number, int[] due) {
        WordBench x = Edges.with(moves);
        Edges.due(what, x.colour(0), number);
        for (int l = 0; l < due.length; l++) {
            Edges.due(what + ", letter " + l, x.moveOf(0, 1, l), due[l]);
            Edges.due(what + ", state 0 by " + l, x.moveOf(0, 0, l), moves[0][l]);
        }
    }

    static void promise24OrdersOfTwoLetters() {
        dueOrder("1 0", new int[][] {{0, 1}, {1, 0}}, 1, new int[] {0, 1});
    }

    static void promise24OrdersOfThreeLetters() {
        dueOrder("0 2 1", new int[][] {{0, 0, 1}, {1, 1, 0}}, 1, new int[] {1, 0, 1});
        dueOrder("0 2 1, the middle", new int[][] {{0, 1, 0}, {1, 0, 1}}, 1, new int[] {1, 1, 0});
        dueOrder("1 0 2", new int[][] {{1, 0, 0}, {0, 1, 1}}, 2, new int[] {1, 0, 1});
    }

    static void promise24OrdersOfFourLetters() {
        dueOrder("0 1 3 2", new int[][] {{0, 0, 0, 1}, {1, 1, 1, 0}}, 1, new int[] {1, 1, 0, 1});
        dueOrder("0 2 1 3", new int[][] {{0, 1, 0, 0}, {1, 0, 1, 1}}, 2, new int[] {1, 1, 0, 1});
        dueOrder("0 1 3 2, the third", new int[][] {{0, 0, 1, 0}, {1, 1, 0, 1}}, 1, new int[] {1, 1, 1, 0});
        dueOrder("1 0 2 3", new int[][] {{1, 0, 0, 0}, {0, 1, 1, 1}}, 6, new int[] {1, 0, 1, 1});
    }

    /** Behind states 0 and 1 those whose orders change nothing: all of theirs are gone through ahead of state 1's next. */
    private static int[][] padded(int[][] two, int n) {
        int[][] moves = new int[n][two[0].length];
        moves[0] = two[0];
        moves[1] = two[1];
        return moves;
    }

    static void promise24TheLastStatesOrderChangesFirst() {
        int[][] two = {{0, 1}, {1, 0}};
        for (int n = 2; n <= 12; n++) {
            Edges.due("two letters, states " + n, Edges.with(padded(two, n)).colour(0), 1 << (n - 2));
        }
        int[][] three = {{0, 0, 1}, {1, 1, 0}};
        for (int n = 2, due = 1; n <= 6; n++, due *= 6) {
            Edges.due("three letters, states " + n, Edges.with(padded(three, n)).colour(0), due);
        }
        int[][] four = {{0, 0, 0, 1}, {1, 1, 1, 0}};
        for (int n = 2, due = 1; n <= 4; n++, due *= 24) {
            Edges.due("four letters, states " + n, Edges.with(padded(four, n)).colour(0), due);
        }
    }

    /** A machine told by one row of digits for each state. */
    private static int[][] rows(String told) {
        String[] states = told.split(" ");
        int[][] moves = new int[states.length][states[0].length()];
        for (int s = 0; s < states.length; s++) {
            for (int l = 0; l < states[s].length(); l++) {
                moves[s][l] = states[s].charAt(l) - '0';
            }
        }
        return moves;
    }

    private static int orders(int letters) {
        return letters <= 1 ? 1 : letters * orders(letters - 1);
    }

    /** The order of so many letters that has that number, from 0 on. */
    private static int[] order(int letters, int number) {
        List<Integer> left = new ArrayList<>();
        for (int l = 0; l < letters; l++) {
            left.add(l);
        }
        int[] row = new int[letters];
        int rest = number;
        for (int place = 0; place < letters; place++) {
            int each = orders(letters - 1 - place);
            row[place] = left.remove(rest / each);
            rest %= each;
        }
        return row;
    }

    /** The first colouring with a word is the one of that number, and the machine has it then. */
    private static void dueColoured(int number, String told) {
        int[][] moves = rows(told);
        int letters = moves[0].length;
        WordBench x = Edges.with(moves);
        Edges.due("the how many-th it is", x.colour(0), number);
        int rest = number;
        for (int s = moves.length - 1; s >= 0; s--) {
            int[] row = order(letters, rest % orders(letters));
            rest /= orders(letters);
            for (int l = 0; l < letters; l++) {
                Edges.due(number + ": state " + s + ", letter " + l, x.moveOf(0, s, l), moves[s][row[l]]);
            }
        }
        Edges.due(number + ": no more orders", rest, 0);
        Edges.holds(number + ": a word is right", x.shortest(0, (1 << moves.length) - 1) > 0);
    }

    static void promise24NumbersOfTwoLetters() {
        dueColoured(0, "14 42 00 22 12");
        dueColoured(1, "24 42 00 24 12");
        dueColoured(2, "33 13 31 21 22");
        dueColoured(3, "20 23 32 41 23");
        dueColoured(4, "20 01 12 34 12");
        dueColoured(5, "14 02 41 31 41");
        dueColoured(6, "20 02 31 02 23");
        dueColoured(12, "21 30 12 12 32 44");
        dueColoured(17, "16 61 16 16 12 21 20");
        dueColoured(18, "31 15 51 02 43 02 46");
        dueColoured(64, "01 10 66 02 20 03 55 62");
    }

    static void promise24NumbersOfThreeLetters() {
        dueColoured(0, "042 420 231 314 303");
        dueColoured(1, "042 420 231 114 303");
        dueColoured(2, "144 333 000 211 422");
        dueColoured(3, "034 041 220 302 420");
        dueColoured(4, "311 400 144 044 043");
        dueColoured(6, "112 031 303 220 244");
        dueColoured(13, "443 105 250 521 012 334");
        dueColoured(37, "005 144 550 450 332 223");
        dueColoured(74, "300 033 034 211 122");
        dueColoured(144, "021 130 202 330 155 312");
        dueColoured(432, "133 311 324 000 042");
    }

    static void promise24NumbersOfFourLetters() {
        dueColoured(0, "2311 0302 3031 1220");
        dueColoured(1, "2111 0302 3033 1220");
        dueColoured(2, "3230 0210 2022 3200");
        dueColoured(3, "3103 2012 1321 0230");
        dueColoured(4, "2011 3100 0233 1012");
        dueColoured(6, "0122 3311 2233 1000");
        dueColoured(7, "1223 0332 3001 3010");
        dueColoured(8, "0122 1033 2300 3211");
        dueColoured(12, "2333 3222 0111 3200");
        dueColoured(24, "0001 1110 1110");
        dueColoured(48, "0011 1100 0222");
        dueColoured(72, "1023 0132 3201 2310 0132");
        dueColoured(96, "2320 3231 0102 1002 3302");
        dueColoured(144, "0222 2000 1111");
        dueColoured(168, "0323 1232 2101 3010 3330");
        dueColoured(192, "2133 3022 0311 1200 2133");
        dueColoured(576, "0010 1101 1202 1323");
    }

    static void promise24Within1500() {
        dueColoured(1152, "1011 0100 0002 1223");
        dueColoured(1296, "010 101 210 155 143 024");
        dueColoured(1297, "006 660 360 221 301 166 112");
        Edges.due("1024", Edges.with(padded(new int[][] {{0, 1}, {1, 0}}, 12)).colour(0), 1024);
    }

    static void promise24AllOrdersOfTheLastStateComeToNothing() {
        // each of its 24 orders is looked at for each of the others'
        dueColoured(24, "0001 1110 2221");
        dueColoured(24, "1020 1021 2333 3212 2333");
        dueColoured(48, "1300 0311 3033 2222");
        dueColoured(48, "2211 1122 0000");
        dueColoured(48, "3300 0033 0033 2111");
        dueColoured(72, "2113 1221 2113 3442 4342 5330");
        dueColoured(144, "3011 3000 1333 2222");
        dueColoured(168, "1323 0232 3101 3110 3010");
    }

    private static void dueNone(int[][] moves) {
        Edges.dueUnchanged("none, its moves stay", Edges.with(moves), (x, v) -> x.colour(v), 0, NONE);
    }

    static void promise24NoneBeyond1500() {
        // the first ones with a word are 1728, 2304, 2592, 3456
        dueNone(rows("0013 1102 2231 3320 2403 4515"));
        dueNone(rows("2122 3033 0200 1301 5520 2410"));
        dueNone(rows("011 100 122 211 305 101"));
        dueNone(rows("1222 1222 2001 2110 4301"));
    }

    static void promise24NoneFarBeyond1500() {
        dueNone(padded(new int[][] {{0, 0, 1}, {1, 1, 0}}, 7));
        dueNone(padded(new int[][] {{0, 0, 0, 1}, {1, 1, 1, 0}}, 5));
        dueNone(padded(new int[][] {{0, 0, 0, 1}, {1, 1, 1, 0}}, 12));
        dueNone(padded(new int[][] {{0, 0, 1}, {1, 1, 0}}, 12));
    }

    // ---- 25: apart

    static void promise25MachinesThatAreThere() {
        Edges.machines((x, v) -> x.apart(v, 2, 0));
    }

    static void promise25StatesThatAreThere() {
        Edges.states((x, v) -> x.apart(0, v, 0));
        Edges.states((x, v) -> x.apart(0, 0, v));
        Edges.states((x, v) -> x.apart(0, v, v));
    }

    static void promise25AllNumbersWrong() {
        Edges.allWrong((x, v) -> x.apart(v, v, v));
    }

    static void promise25OfThatMachine() {
        WordBench x = Edges.sixRings();
        for (int i = 1; i < 6; i++) {
            x.light(i, 1 + i, 1);
        }
        for (int i = 0; i < 6; i++) {
            Edges.due("states 0 and 1 of " + i, x.apart(i, 0, 1), i == 0 ? NONE : i);
        }
    }

    static void promise25ByTheLightsAndMovesOfNow() {
        WordBench x = Edges.ringOf(3);
        x.light(0, 2, 1);
        Edges.due("as it was", x.apart(0, 0, 1), 1);
        x.light(0, 1, 2);
        Edges.due("another light", x.apart(0, 0, 1), 0);
        x.light(0, 1, 0);
        x.move(0, 1, 0, NONE);
        Edges.due("a move missing", x.apart(0, 0, 1), NONE);
    }

    static void promise25BothLikeIsNone() {
        WordBench x = Edges.whole(12, 2);
        for (int p = 0; p < 12; p++) {
            x.light(0, p, p % 4);
        }
        for (int p = 0; p < 12; p++) {
            Edges.due("state " + p, x.apart(0, p, p), NONE);
        }
    }

    static void promise25AheadOfTheWord() {
        WordBench x = new WordBench();
        x.machine(2, 1);
        Edges.due("like lights", x.apart(0, 0, 1), NONE);
        for (int p = 0; p <= 3; p++) {
            for (int q = 0; q <= 3; q++) {
                x.light(0, 0, p);
                x.light(0, 1, q);
                Edges.due("lights " + p + " " + q, x.apart(0, 0, 1), p == q ? NONE : 0);
            }
        }
    }

    static void promise25BothHaveAllMoves() {
        WordBench x = Edges.with(new int[][] {{2, 0}, {3, 1}, {2, NONE}, {NONE, 0}});
        x.light(0, 2, 1);
        Edges.due("both", x.apart(0, 0, 1), 1);
        x.move(0, 0, 0, NONE);
        Edges.due("not the first", x.apart(0, 0, 1), NONE);
        x.move(0, 0, 0, 2);
        x.move(0, 1, 0, NONE);
        Edges.due("not the second", x.apart(0, 0, 1), NONE);
        x.move(0, 0, 0, NONE);
        Edges.due("neither", x.apart(0, 0, 1), NONE);
    }

    static void promise25AtSomeTimeOnIt() {
        WordBench x = Edges.with(new int[][] {{1, 0}, {2, 0}, {3, 3}, {3, 3}, {1, 4}});
        x.light(0, 2, 2);
        Edges.due("where they are like later", x.apart(0, 0, 1), 1);
        Edges.due("never", x.apart(0, 0, 4), NONE);
    }

    static void promise25TheShorterWordFirst() {
        WordBench x = Edges.with(new int[][] {{2, 2, 4}, {3, 3, 5}, {4, 2, 2}, {5, 3, 3}, {4, 4, 4}, {5, 5, 5}});
        x.light(0, 5, 1);
        Edges.due("by 2, not by 00", x.apart(0, 0, 1), 1);
        x.move(0, 0, 2, 0);
        x.move(0, 1, 2, 1);
        Edges.due("by 00", x.apart(0, 0, 1), 2);
    }

    static void promise25TheFarthest() {
        WordBench x = new WordBench();
        x.machine(12, 1);
        for (int s = 0; s < 11; s++) {
            x.move(0, s, 0, s + 1);
        }
        x.light(0, 11, 3);
        for (int p = 0; p < 11; p++) {
            Edges.due("from " + p + " up", x.apart(0, p, 11), 0);
            Edges.due("from 0 and " + p, x.apart(0, 0, p), p == 0 ? NONE : 11 - p);
            Edges.due("from " + p + " and 0", x.apart(0, p, 0), p == 0 ? NONE : 11 - p);
        }
    }

    static void promise25RoundARingToTheEnd() {
        WordBench x = Edges.ringOf(12);
        x.light(0, 5, 1);
        Edges.due("one step", x.apart(0, 4, 3), 1);
        Edges.due("eleven steps less one", x.apart(0, 6, 7), 10);
    }

    static void promise25TheWordStays() {
        WordBench x = Edges.ringOf(4);
        x.light(0, 2, 1);
        Edges.spell(x, "32");
        Edges.dueUnchanged("found", x, (y, v) -> y.apart(0, 0, v), 1, 1);
        Edges.dueUnchanged("none", x, (y, v) -> y.apart(0, v, v), 1, NONE);
    }

    // ---- 26: count

    static void promise26What0And1() {
        Edges.range(WordBench::new, (x, v) -> x.count(v), 0, 1);
    }

    static void promise26NoMachineToSix() {
        WordBench x = new WordBench();
        for (int made = 0; made < 6; made++) {
            Edges.due("made " + made, x.count(0), made);
            x.machine(1, 1);
        }
        Edges.due("six", x.count(0), 6);
        Edges.due("refused", x.machine(1, 1), FULL);
        Edges.due("still six", x.count(0), 6);
    }

    static void promise26NoLetterTo600() {
        WordBench x = Edges.with(Checks.FAR);
        Edges.due("none", x.count(1), 0);
        x.letter(3);
        Edges.due("one", x.count(1), 1);
        x.shortest(0, 1866);
        Edges.due("600", x.count(1), 600);
        x.letter(0);
        Edges.due("still 600", x.count(1), 600);
        x.empty();
        Edges.due("none again", x.count(1), 0);
    }

    static void promise26ChangesNothing() {
        WordBench x = Edges.ringOf(3);
        x.letter(3);
        Edges.dueUnchanged("machines", x, (y, v) -> y.count(v), 0, 1);
        Edges.dueUnchanged("letters", x, (y, v) -> y.count(v), 1, 1);
    }

    // ---- 27: digest

    private static long hash(int... row) {
        long h = 163;
        for (int v : row) {
            h = 31 * h + v;
        }
        return h;
    }

    static void promise27OfANewObject() {
        Edges.due("just how long the word is", new WordBench().digest(), 5053);
    }

    static void promise27OfTheLeastMachine() {
        WordBench x = new WordBench();
        x.machine(1, 1);
        Edges.due("no moves", x.digest(), hash(1, 1, 0, NONE, 0, 1, 1, 0));
        x.move(0, 0, 0, 0);
        Edges.due("whole", x.digest(), hash(1, 1, 1, 0, 0, 1, 1, 0));
    }

    static void promise27InThatOrder() {
        WordBench x = Edges.with(new int[][] {{1, NONE, 0}, {0, 1, NONE}});
        x.light(0, 0, 3);
        x.light(0, 1, 2);
        x.price(0, 0, 4);
        x.price(0, 1, 5);
        x.price(0, 2, 6);
        x.share(0, 0, 0);
        x.share(0, 1, 2);
        x.share(0, 2, 3);
        x.ring(2);
        x.letter(2);
        x.letter(0);
        x.letter(3);
        Edges.due("each v in its place", x.digest(), hash(2, 3, 0, 1, NONE, 0, 3, 0, 1, NONE, 2, 4, 0, 5, 2, 6, 3,
            2, 2, 1, 1, 0, 0, 0, 0, 0, 1, 1, 1, 1, 3, 2, 0, 3));
    }

    static void promise27TheSumWrapsAround() {
        WordBench x = new WordBench();
        BigInteger whole = BigInteger.valueOf(163);
        for (int i = 0; i < 6; i++) {
            x.machine(12, 4);
        }
        int[] state = {NONE, NONE, NONE, NONE, 0};
        for (int i = 0; i < 6; i++) {
            whole = on(whole, 12, 4, 0);
            for (int s = 0; s < 12; s++) {
                whole = on(whole, state);
            }
            whole = on(whole, 1, 1, 1, 1, 1, 1, 1, 1);
        }
        whole = on(whole, 0);
        Edges.holds("far above a long", whole.bitLength() > 64);
        Edges.due("what is left of it", x.digest(), whole.longValue());
    }

    private static BigInteger on(BigInteger h, int... row) {
        BigInteger sum = h;
        for (int v : row) {
            sum = sum.multiply(BigInteger.valueOf(31)).add(BigInteger.valueOf(v));
        }
        return sum;
    }

    static void promise27Of600Letters() {
        WordBench x = Edges.with(Checks.FAR);
        x.shortest(0, 1866);
        long h = x.digest();
        long due = 163;
        due = 31 * due + 12;
        due = 31 * due + 3;
        due = 31 * due;
        for (int[] moves : Checks.FAR) {
            for (int to : moves) {
                due = 31 * due + to;
            }
            due = 31 * due;
        }
        for (int i = 0; i < 6; i++) {
            due = 31 * due + 1;
        }
        due = 31 * due + 600;
        // an object is used for 512 calls: the letters are read off two like ones
        WordBench y = Edges.with(Checks.FAR);
        y.shortest(0, 1866);
        for (int i = 0; i < 600; i++) {
            due = 31 * due + (i < 300 ? x : y).letterAt(i);
        }
        Edges.due("all letters", h, due);
    }

    static void promise27ChangesNothing() {
        WordBench x = Edges.ringOf(3);
        x.letter(3);
        long before = x.digest();
        Edges.due("once more", x.digest(), before);
        Edges.due("the move", x.moveOf(0, 2, 0), 0);
        Edges.dueWord("the word", x, "3");
    }

    static void promise27The512thCall() {
        WordBench x = Edges.ringOf(12);
        for (int call = 2; call < 512; call += 2) {
            Edges.due("calls from " + call, x.colour(0) + x.cheapest(0, 4095), 121);
        }
        Edges.due("the last one", x.chance(0, 1, 12), 4096);
    }
}
