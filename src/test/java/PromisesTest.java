/** Each promise of the document by hand: ordinary inputs, the edges that it names, and wrong inputs. */
final class PromisesTest {
    private static final int NONE = -1, BAD = -2, NO = -3, FULL = -4;
    private static final int MAX = Integer.MAX_VALUE, MIN = Integer.MIN_VALUE;
    private static final int[][] FAR = Checks.FAR;

    private static final Checks checks = new Checks("PromisesTest");

    private PromisesTest() {
    }

    public static void main(String[] args) {
        newObject();
        machine();
        ring();
        move();
        light();
        price();
        share();
        about();
        moveOf();
        empty();
        letter();
        letterAt();
        goes();
        shortest();
        shortestTo();
        rank();
        merge();
        unmerged();
        greedy();
        cheapest();
        chance();
        chances();
        kinds();
        colour();
        apart();
        count();
        digest();
        checks.end();
    }

    private static void due(String what, long got, long want) {
        checks.due(what, got, want);
    }

    private static WordBench withRing(int n) {
        WordBench x = new WordBench();
        x.ring(n);
        return x;
    }

    private static WordBench with(int[][] moves) {
        WordBench x = new WordBench();
        Checks.machineOf(x, moves);
        return x;
    }

    private static void newObject() {
        WordBench x = new WordBench();
        due("1 no machines", x.count(0), 0);
        due("1 empty word", x.count(1), 0);
        due("1 no machine 0", x.about(0, 0), BAD);
        due("1 digest", x.digest(), 163 * 31);
        due("1 NONE", WordBench.NONE, NONE);
        due("1 BAD", WordBench.BAD, BAD);
        due("1 NO", WordBench.NO, NO);
        due("1 FULL", WordBench.FULL, FULL);
    }

    private static void machine() {
        WordBench x = new WordBench();
        int[][] wrong = {{0, 1}, {13, 1}, {1, 0}, {1, 5}, {-1, 2}, {2, -1}, {MAX, 1}, {1, MIN}};
        for (int[] w : wrong) {
            due("2 wrong numbers", x.machine(w[0], w[1]), BAD);
        }
        due("2 none made by a refused call", x.count(0), 0);
        due("2 first", x.machine(1, 1), 0);
        due("2 second", x.machine(12, 4), 1);
        due("2 states", x.about(1, 0), 12);
        due("2 letters", x.about(1, 1), 4);
        for (int state = 0; state < 12; state++) {
            for (int l = 0; l < 4; l++) {
                due("2 no moves", x.moveOf(1, state, l), NONE);
            }
            due("2 light 0", x.light(1, state, 0), 0);
        }
        for (int l = 0; l < 4; l++) {
            due("2 price 1", x.price(1, l, 1), 1);
            due("2 share 1", x.share(1, l, 1), 1);
        }
        for (int i = 2; i < 6; i++) {
            due("2 more", x.machine(i, 1), i);
        }
        long before = x.digest();
        due("2 full", x.machine(1, 1), FULL);
        due("2 bad ahead of full", x.machine(0, 1), BAD);
        due("2 full changes nothing", x.digest(), before);
        due("2 still six", x.count(0), 6);
    }

    private static void ring() {
        WordBench x = new WordBench();
        due("3 too small", x.ring(1), BAD);
        due("3 too large", x.ring(13), BAD);
        due("3 negative", x.ring(MIN), BAD);
        due("3 first", x.ring(2), 0);
        due("3 second", x.ring(12), 1);
        due("3 two letters", x.about(1, 1), 2);
        due("3 states", x.about(1, 0), 12);
        due("3 whole", x.about(1, 2), 1);
        for (int state = 0; state < 12; state++) {
            due("3 letter 0", x.moveOf(1, state, 0), (state + 1) % 12);
            due("3 letter 1", x.moveOf(1, state, 1), state == 11 ? 0 : state);
        }
        due("3 of two, 0", x.moveOf(0, 0, 0), 1);
        due("3 of two, last", x.moveOf(0, 1, 0), 0);
        due("3 of two, 1", x.moveOf(0, 0, 1), 0);
        due("3 of two, last by 1", x.moveOf(0, 1, 1), 0);
        for (int i = 2; i < 6; i++) {
            x.ring(3);
        }
        due("3 full", x.ring(2), FULL);
        due("3 bad ahead of full", x.ring(1), BAD);
    }

    private static void move() {
        WordBench x = new WordBench();
        x.machine(3, 2);
        due("4 was missing", x.move(0, 2, 1, 0), NONE);
        due("4 was 0", x.move(0, 2, 1, 2), 0);
        due("4 is 2", x.moveOf(0, 2, 1), 2);
        due("4 others stay", x.moveOf(0, 2, 0), NONE);
        due("4 taken away", x.move(0, 2, 1, NONE), 2);
        due("4 is missing", x.moveOf(0, 2, 1), NONE);
        due("4 away again", x.move(0, 2, 1, NONE), NONE);
        x.move(0, 0, 0, 1);
        long before = x.digest();
        int[][] wrong = {{1, 0, 0, 0}, {-1, 0, 0, 0}, {0, 3, 0, 0}, {0, -1, 0, 0}, {0, 0, 2, 0}, {0, 0, -1, 0},
            {0, 0, 0, 3}, {0, 0, 0, -2}, {MAX, MAX, MAX, MAX}, {0, MIN, 0, 0}, {0, 0, MIN, 0}, {0, 0, 0, MIN}, {6, 0, 0, 0}};
        for (int[] w : wrong) {
            due("4 wrong numbers", x.move(w[0], w[1], w[2], w[3]), BAD);
        }
        due("4 refused changes nothing", x.digest(), before);
    }

    private static void light() {
        WordBench x = new WordBench();
        x.machine(2, 1);
        due("5 was 0", x.light(0, 1, 3), 0);
        due("5 was 3", x.light(0, 1, 0), 3);
        due("5 was 0 again", x.light(0, 1, 2), 0);
        due("5 the other stays", x.light(0, 0, 0), 0);
        long before = x.digest();
        int[][] wrong = {{1, 0, 0}, {-1, 0, 0}, {0, 2, 0}, {0, -1, 0}, {0, 0, 4}, {0, 0, -1}, {0, MAX, MAX}};
        for (int[] w : wrong) {
            due("5 wrong numbers", x.light(w[0], w[1], w[2]), BAD);
        }
        due("5 refused changes nothing", x.digest(), before);
    }

    private static void price() {
        WordBench x = new WordBench();
        x.machine(1, 2);
        due("6 was 1", x.price(0, 1, 20), 1);
        due("6 was 20", x.price(0, 1, 1), 20);
        due("6 the other stays", x.price(0, 0, 7), 1);
        long before = x.digest();
        int[][] wrong = {{1, 0, 1}, {-1, 0, 1}, {0, 2, 1}, {0, -1, 1}, {0, 0, 0}, {0, 0, 21}, {0, 0, -1}, {0, MAX, 1}};
        for (int[] w : wrong) {
            due("6 wrong numbers", x.price(w[0], w[1], w[2]), BAD);
        }
        due("6 refused changes nothing", x.digest(), before);
    }

    private static void share() {
        WordBench x = new WordBench();
        x.machine(1, 2);
        due("7 was 1", x.share(0, 1, 5), 1);
        due("7 was 5", x.share(0, 1, 0), 5);
        due("7 was 0", x.share(0, 1, 2), 0);
        due("7 the other stays", x.share(0, 0, 1), 1);
        long before = x.digest();
        int[][] wrong = {{1, 0, 1}, {-1, 0, 1}, {0, 2, 1}, {0, -1, 1}, {0, 0, 6}, {0, 0, -1}, {0, MAX, 1}};
        for (int[] w : wrong) {
            due("7 wrong numbers", x.share(w[0], w[1], w[2]), BAD);
        }
        due("7 refused changes nothing", x.digest(), before);
    }

    private static void about() {
        WordBench x = new WordBench();
        x.machine(2, 3);
        due("8 states", x.about(0, 0), 2);
        due("8 letters", x.about(0, 1), 3);
        due("8 not whole", x.about(0, 2), 0);
        for (int i = 0; i < 6; i++) {
            due("8 not whole yet", x.about(0, 2), 0);
            x.move(0, i / 3, i % 3, 0);
        }
        due("8 whole", x.about(0, 2), 1);
        x.move(0, 1, 2, NONE);
        due("8 the last move missing", x.about(0, 2), 0);
        due("8 no such fact", x.about(0, 3), BAD);
        due("8 negative fact", x.about(0, -1), BAD);
        due("8 no such machine", x.about(1, 0), BAD);
        due("8 negative machine", x.about(-1, 0), BAD);
        due("8 far off", x.about(MAX, MIN), BAD);
    }

    private static void moveOf() {
        WordBench x = withRing(3);
        due("9 move", x.moveOf(0, 2, 0), 0);
        x.move(0, 2, 0, NONE);
        due("9 missing", x.moveOf(0, 2, 0), NONE);
        int[][] wrong = {{1, 0, 0}, {-1, 0, 0}, {0, 3, 0}, {0, -1, 0}, {0, 0, 2}, {0, 0, -1}, {MAX, MIN, 4}};
        for (int[] w : wrong) {
            due("9 wrong numbers", x.moveOf(w[0], w[1], w[2]), BAD);
        }
    }

    private static void empty() {
        WordBench x = new WordBench();
        due("10 empty already", x.empty(), 0);
        x.letter(1);
        x.letter(0);
        due("10 was two", x.empty(), 2);
        due("10 is none", x.count(1), 0);
        due("10 nothing to read", x.letterAt(0), NONE);
        due("10 starts anew", x.letter(3), 1);
    }

    private static void letter() {
        WordBench x = new WordBench();
        due("11 first", x.letter(3), 1);
        due("11 second", x.letter(0), 2);
        due("11 too large", x.letter(4), BAD);
        due("11 negative", x.letter(-1), BAD);
        checks.dueWord("11 behind each other", x, "30");
        for (int i = 2; i < 500; i++) {
            x.letter(i % 4);
        }
        due("11 five hundred", x.count(1), 500);
        // the rest of 600 letters by a search, for an object is used for 512 calls
        WordBench y = withRing(12);
        y.shortest(0, 4095);
        for (int i = 121; i < 600; i++) {
            due("11 on", y.letter(1), i + 1);
        }
        due("11 full", y.letter(0), FULL);
        due("11 bad ahead of full", y.letter(4), BAD);
        due("11 still 600", y.count(1), 600);
        due("11 the last stays", y.letterAt(599), 1);
        due("11 emptied", y.empty(), 600);
        due("11 room again", y.letter(0), 1);
    }

    private static void letterAt() {
        WordBench x = new WordBench();
        due("12 none", x.letterAt(0), NONE);
        x.letter(2);
        x.letter(3);
        due("12 first", x.letterAt(0), 2);
        due("12 last", x.letterAt(1), 3);
        due("12 behind", x.letterAt(2), NONE);
        due("12 far behind", x.letterAt(600), NONE);
        due("12 farthest", x.letterAt(MAX), NONE);
        due("12 ahead", x.letterAt(-1), NONE);
        due("12 far ahead", x.letterAt(MIN), NONE);
    }

    private static void goes() {
        WordBench x = withRing(4);
        due("13 by the empty word", x.goes(0, 5), 5);
        x.letter(0);
        due("13 round", x.goes(0, 9), 3);
        x.letter(0);
        x.letter(1);
        due("13 letter by letter", x.goes(0, 3), 5);
        due("13 two come to one", x.goes(0, 6), 1);
        x.move(0, 2, 0, NONE);
        due("13 a move missing", x.goes(0, 4), NONE);
        due("13 missing later", x.goes(0, 2), NONE);
        due("13 missing for others", x.goes(0, 8), 2);
        due("13 one of two missing", x.goes(0, 12), NONE);
        due("13 the word stays", x.count(1), 3);
        int[][] wrong = {{0, 0}, {0, 16}, {0, -1}, {0, MIN}, {0, MAX}, {1, 1}, {-1, 1}};
        for (int[] w : wrong) {
            due("13 wrong numbers", x.goes(w[0], w[1]), BAD);
        }
        x.letter(2);
        due("13 a letter that is not there", x.goes(0, 8), BAD);
        due("13 even where it does not go", x.goes(0, 4), BAD);
    }

    private static void shortest() {
        WordBench x = withRing(4);
        due("14 length", x.shortest(0, 15), 9);
        checks.dueWord("14 the word", x, "100010001");
        due("14 of one state", x.shortest(0, 4), 0);
        due("14 then empty", x.count(1), 0);
        WordBench y = with(new int[][] {{0, 1}, {2, 3}, {1, 3}, {3, 3}});
        due("14 one letter", y.shortest(0, 6), 1);
        checks.dueWord("14 by letter 1 alone", y, "1");
        WordBench z = with(new int[][] {{2, 2, 1}, {3, 3, 2}, {0, 1, 1}, {0, 1, 0}});
        due("14 two letters", z.shortest(0, 3), 2);
        checks.dueWord("14 the first of like ones", z, "00");
        WordBench none = with(new int[][] {{1, 0}, {0, NONE}});
        none.letter(3);
        due("14 none", none.shortest(0, 3), NONE);
        checks.dueWord("14 the word stays", none, "3");
        due("14 only through whole moves", none.shortest(0, 1), 0);
        int[][] wrong = {{0, 0}, {0, 16}, {0, -1}, {0, MIN}, {0, MAX}, {1, 1}, {-1, 1}};
        for (int[] w : wrong) {
            due("14 wrong numbers", x.shortest(w[0], w[1]), BAD);
        }
        WordBench far = with(FAR);
        far.letter(2);
        due("14 above 600 letters told", far.shortest(0, 630), 633);
        checks.dueWord("14 above 600 the word stays", far, "2");
        due("14 601 letters told", far.shortest(0, 2409), 601);
        checks.dueWord("14 601 letters are too many", far, "2");
        due("14 600 letters", far.shortest(0, 1866), 600);
        due("14 600 letters become the word", far.count(1), 600);
        checks.holds("14 600 letters bring it to one state", Integer.bitCount(far.goes(0, 1866)) == 1);
    }

    private static void shortestTo() {
        WordBench x = withRing(4);
        due("15 to the first", x.shortestTo(0, 15, 0), 9);
        due("15 to another", x.shortestTo(0, 15, 2), 11);
        checks.dueWord("15 the word", x, "10001000100");
        due("15 from one state to itself", x.shortestTo(0, 8, 3), 0);
        due("15 from one state to another", x.shortestTo(0, 8, 0), 1);
        checks.dueWord("15 the first of two", x, "0");
        WordBench y = with(new int[][] {{0}, {0}});
        y.letter(1);
        due("15 none", y.shortestTo(0, 3, 1), NONE);
        checks.dueWord("15 the word stays", y, "1");
        due("15 to the other", y.shortestTo(0, 3, 0), 1);
        int[][] wrong = {{0, 0, 0}, {0, 16, 0}, {0, -1, 0}, {0, MAX, 0}, {0, 1, 4}, {0, 1, -1}, {0, 1, MAX}, {1, 1, 0}, {-1, 1, 0}};
        for (int[] w : wrong) {
            due("15 wrong numbers", x.shortestTo(w[0], w[1], w[2]), BAD);
        }
        WordBench far = with(FAR);
        int end = -1;
        far.letter(2);
        for (int q = 0; q < 12; q++) {
            int length = far.shortestTo(0, 630, q);
            end = length == 633 ? q : end;
            checks.holds("15 none or far", length == NONE || length >= 633);
        }
        checks.holds("15 above 600 letters told", end >= 0);
        checks.dueWord("15 above 600 the word stays", far, "2");
    }

    private static void rank() {
        WordBench x = withRing(4);
        due("16 to one", x.rank(0, 15), 1);
        checks.dueWord("16 the word", x, "100010001");
        WordBench y = with(new int[][] {{1, 0}, {2, 1}, {0, 2}, {0, 2}});
        due("16 no fewer than three", y.rank(0, 15), 3);
        checks.dueWord("16 the first word to three", y, "0");
        due("16 as it is", y.rank(0, 7), 3);
        checks.dueWord("16 by the empty word", y, "");
        WordBench z = with(new int[][] {{NONE}, {0}, {1}});
        z.letter(3);
        due("16 does not go", z.rank(0, 7), 3);
        checks.dueWord("16 empty then", z, "");
        int[][] wrong = {{0, 0}, {0, 16}, {0, -1}, {0, MAX}, {1, 1}, {-1, 1}};
        for (int[] w : wrong) {
            due("16 wrong numbers", x.rank(w[0], w[1]), BAD);
        }
        checks.dueWord("16 refused changes nothing", x, "100010001");
        WordBench far = with(FAR);
        far.letter(2);
        due("16 above 600 letters told", far.rank(0, 630), 1);
        checks.dueWord("16 above 600 the word stays", far, "2");
    }

    private static void merge() {
        WordBench x = withRing(4);
        x.letter(2);
        due("17 near", x.merge(0, 0, 3), 1);
        due("17 the other way round", x.merge(0, 3, 0), 1);
        due("17 two", x.merge(0, 0, 1), 4);
        due("17 far", x.merge(0, 0, 2), 6);
        checks.dueWord("17 the word stays", x, "2");
        WordBench y = with(new int[][] {{0, NONE}, {0, 0}, {2, 2}});
        due("17 by a move that both have", y.merge(0, 0, 1), 1);
        due("17 none", y.merge(0, 0, 2), NONE);
        y.move(0, 0, 0, NONE);
        due("17 none for a missing move", y.merge(0, 0, 1), NONE);
        int[][] wrong = {{0, 1, 1}, {0, 4, 1}, {0, 1, 4}, {0, -1, 1}, {0, 1, -1}, {1, 0, 1}, {-1, 0, 1}, {0, MAX, MIN}};
        for (int[] w : wrong) {
            due("17 wrong numbers", x.merge(w[0], w[1], w[2]), BAD);
        }
    }

    private static void unmerged() {
        WordBench x = withRing(12);
        due("18 none unmerged", x.unmerged(0), 0);
        x.machine(12, 4);
        due("18 all of 66", x.unmerged(1), 66);
        x.machine(1, 1);
        due("18 no two states", x.unmerged(2), 0);
        Checks.machineOf(x, new int[][] {{1, NONE}, {0, NONE}, {2, 2}, {2, NONE}});
        due("18 some", x.unmerged(3), 5);
        due("18 no such machine", x.unmerged(4), BAD);
        due("18 negative", x.unmerged(-1), BAD);
        due("18 far off", x.unmerged(MAX), BAD);
    }

    private static void greedy() {
        WordBench x = withRing(4);
        due("19 length", x.greedy(0, 15), 10);
        checks.dueWord("19 the word", x, "1001010001");
        due("19 it is right", x.goes(0, 15) & (x.goes(0, 15) - 1), 0);
        due("19 of one state", x.greedy(0, 2), 0);
        checks.dueWord("19 empty then", x, "");
        // 0, 1 come together by 1; 2, 3 by 0: the first word, not that of the least p
        WordBench y = with(new int[][] {{1, 4}, {2, 4}, {3, 0}, {3, 1}, {4, 4}});
        due("19 by the first word", y.greedy(0, 15), 3);
        checks.dueWord("19 its letters", y, "000");
        // 0, 1 come together by 0, but 2 has no such move
        WordBench z = with(new int[][] {{0, 1}, {0, 2}, {NONE, 2}});
        due("19 by which the whole set goes", z.greedy(0, 7), 2);
        checks.dueWord("19 another word", z, "11");
        z.move(0, 2, 1, NONE);
        due("19 without success", z.greedy(0, 7), NONE);
        checks.dueWord("19 the word stays", z, "11");
        int[][] wrong = {{0, 0}, {0, 16}, {0, -1}, {0, MAX}, {1, 1}, {-1, 1}};
        for (int[] w : wrong) {
            due("19 wrong numbers", x.greedy(w[0], w[1]), BAD);
        }
    }

    private static void cheapest() {
        WordBench x = withRing(4);
        due("20 of price 1 each", x.cheapest(0, 15), 9);
        checks.dueWord("20 the word", x, "100010001");
        x.price(0, 0, 5);
        due("20 dearer", x.cheapest(0, 15), 33);
        due("20 of one state", x.cheapest(0, 8), 0);
        checks.dueWord("20 empty then", x, "");
        // two cheap letters rather than a dear one
        WordBench y = with(new int[][] {{0, 2}, {0, 3}, {2, 2}, {3, 2}});
        y.price(0, 0, 20);
        y.price(0, 1, 9);
        due("20 cheap though longer", y.cheapest(0, 3), 18);
        checks.dueWord("20 the longer one", y, "11");
        y.price(0, 1, 10);
        due("20 of like sums", y.cheapest(0, 3), 20);
        checks.dueWord("20 the least set as a number is settled first", y, "0");
        WordBench none = with(new int[][] {{1, 0}, {0, NONE}});
        none.letter(3);
        due("20 none", none.cheapest(0, 3), NONE);
        checks.dueWord("20 the word stays", none, "3");
        int[][] wrong = {{0, 0}, {0, 16}, {0, -1}, {0, MAX}, {1, 1}, {-1, 1}};
        for (int[] w : wrong) {
            due("20 wrong numbers", x.cheapest(w[0], w[1]), BAD);
        }
        WordBench far = with(FAR);
        far.letter(2);
        due("20 above 600 letters told", far.cheapest(0, 630), 633);
        checks.dueWord("20 above 600 the word stays", far, "2");
    }

    private static void chance() {
        WordBench x = withRing(4);
        due("21 none so short", x.chance(0, 15, 8), 0);
        due("21 one word of nine", x.chance(0, 15, 9), 1);
        due("21 of one state, no letters", x.chance(0, 1, 0), 1);
        due("21 of two states, no letters", x.chance(0, 3, 0), 0);
        due("21 of one state, all words", x.chance(0, 1, 12), 4096);
        x.share(0, 1, 3);
        due("21 products of shares", x.chance(0, 15, 9), 27);
        x.share(0, 0, 0);
        due("21 a letter that never comes", x.chance(0, 15, 9), 0);
        x.share(0, 0, 5);
        x.share(0, 1, 5);
        due("21 above an int", x.chance(0, 1, 12), 1000000000000L);
        WordBench y = with(new int[][] {{0, NONE}, {0, 1}});
        due("21 it must go wholly", y.chance(0, 3, 2), 1);
        due("21 also when it is of one state", y.chance(0, 1, 3), 1);
        int[][] wrong = {{0, 0, 1}, {0, 16, 1}, {0, -1, 1}, {0, MAX, 1}, {1, 1, 1}, {-1, 1, 1}, {0, 1, 13}, {0, 1, -1}, {0, 1, MAX}};
        for (int[] w : wrong) {
            due("21 wrong numbers", x.chance(w[0], w[1], w[2]), BAD);
        }
    }

    private static void chances() {
        WordBench x = new WordBench();
        x.machine(1, 4);
        due("22 no letters", x.chances(0, 0), 1);
        due("22 one", x.chances(0, 1), 4);
        due("22 twelve", x.chances(0, 12), 16777216);
        for (int l = 0; l < 4; l++) {
            x.share(0, l, 5);
        }
        due("22 the most", x.chances(0, 12), 4096000000000000L);
        for (int l = 0; l < 4; l++) {
            x.share(0, l, 0);
        }
        due("22 no shares", x.chances(0, 3), 0);
        due("22 no shares, no letters", x.chances(0, 0), 1);
        int[][] wrong = {{1, 1}, {-1, 1}, {0, 13}, {0, -1}, {MAX, 0}, {0, MIN}};
        for (int[] w : wrong) {
            due("22 wrong numbers", x.chances(w[0], w[1]), BAD);
        }
    }

    private static void kinds() {
        due("23 all kinds", with(new int[][] {{0}}).kinds(0), 31);
        due("23 ring", withRing(5).kinds(0), 1 + 16);
        due("23 round", with(new int[][] {{1}, {2}, {0}}).kinds(0), 1 + 8);
        due("23 two rings", with(new int[][] {{1}, {0}, {3}, {2}}).kinds(0), 8);
        due("23 a ring that leaves one out", with(new int[][] {{1}, {2}, {1}}).kinds(0), 0);
        due("23 sink in order", with(new int[][] {{0, 0}, {0, 1}, {1, 1}}).kinds(0), 2 + 4 + 16);
        due("23 sink not in order", with(new int[][] {{2}, {0}, {2}}).kinds(0), 2 + 16);
        due("23 two sinks", with(new int[][] {{0}, {1}, {1}}).kinds(0), 4 + 16);
        due("23 a state that stays by one letter", with(new int[][] {{0, 1}, {0, 1}}).kinds(0), 4 + 16);
        due("23 one letter not in order", with(new int[][] {{0, 1}, {1, 0}}).kinds(0), 1 + 8 + 16);
        due("23 one letter no swap", with(new int[][] {{1, 1}, {0, 1}}).kinds(0), 1 + 16);
        due("23 a loop away from 0", with(new int[][] {{2}, {1}, {0}}).kinds(0), 8 + 16);
        WordBench x = with(new int[][] {{0, 0}, {0, NONE}});
        due("23 not whole", x.kinds(0), NO);
        due("23 no such machine", x.kinds(1), BAD);
        due("23 negative", x.kinds(-1), BAD);
    }

    private static void colour() {
        due("24 one state", with(new int[][] {{0, 0, 0, 0}}).colour(0), 0);
        WordBench x = withRing(12);
        long before = x.digest();
        due("24 as it is", x.colour(0), 0);
        due("24 then nothing changes", x.digest(), before);
        due("24 one letter", with(new int[][] {{1}, {0}}).colour(0), NONE);
        due("24 one letter to a sink", with(new int[][] {{0}, {0}}).colour(0), 0);
        colourOfTwoLetters();
        colourOfThreeLetters();
        colourOfFourLetters();
        colourTheLast();
        x.machine(2, 1);
        due("24 not whole", x.colour(1), NO);
        due("24 no such machine", x.colour(2), BAD);
        due("24 negative", x.colour(-1), BAD);
    }

    private static void colourOfTwoLetters() {
        WordBench x = with(new int[][] {{1, 0}, {2, 1}, {0, 2}});
        x.letter(3);
        due("24 the last state's order first", x.colour(0), 1);
        checks.dueWord("24 the word stays", x, "3");
        due("24 state 2 exchanged", x.moveOf(0, 2, 0), 2);
        due("24 state 2 exchanged by 1", x.moveOf(0, 2, 1), 0);
        due("24 state 1 stays", x.moveOf(0, 1, 0), 2);
        due("24 state 0 stays", x.moveOf(0, 0, 0), 1);
        due("24 once more", x.colour(0), 0);
        WordBench none = with(new int[][] {{0, 0}, {1, 1}});
        long before = none.digest();
        due("24 none", none.colour(0), NONE);
        due("24 its moves stay", none.digest(), before);
    }

    private static void colourOfThreeLetters() {
        // 1 goes to itself by 0, to 0 by 1 and 2; 0 to 1 by 0, to itself by 1 and 2: only the order's first place matters
        WordBench x = with(new int[][] {{1, 0, 0}, {0, 1, 1}});
        due("24 orders of three letters", x.colour(0), 2);
        due("24 order 1 0 2, letter 0", x.moveOf(0, 1, 0), 1);
        due("24 order 1 0 2, letter 1", x.moveOf(0, 1, 1), 0);
        due("24 order 1 0 2, letter 2", x.moveOf(0, 1, 2), 1);
    }

    private static void colourOfFourLetters() {
        // all letters swap; the first order by which two states come together is 0 1 3 2 of state 1
        WordBench x = with(new int[][] {{0, 0, 0, 1}, {1, 1, 1, 0}});
        due("24 orders of four letters", x.colour(0), 1);
        due("24 letter 2", x.moveOf(0, 1, 2), 0);
        due("24 letter 3", x.moveOf(0, 1, 3), 1);
    }

    /** The later states' orders change nothing, so that all of them are gone through for each of the first two's. */
    private static void colourTheLast() {
        int[][] moves = new int[12][2];
        moves[0] = new int[] {1, 0};
        moves[1] = new int[] {0, 1};
        for (int state = 2; state < 12; state++) {
            moves[state] = new int[] {0, 0};
        }
        WordBench near = with(moves);
        due("24 the 1024 of state 1's first order come to nothing", near.colour(0), 1024);
        due("24 state 1 exchanged", near.moveOf(0, 1, 0), 1);
        due("24 state 0 stays", near.moveOf(0, 0, 0), 1);
        int[][] late = new int[12][2];
        late[0] = new int[] {0, 1};
        late[1] = new int[] {1, 0};
        for (int state = 2; state < 12; state++) {
            late[state] = new int[] {1, 1};
        }
        due("24 within 1500", with(late).colour(0), 1024);
        int[][] beyond = new int[12][3];
        beyond[0] = new int[] {0, 1, 1};
        beyond[1] = new int[] {1, 0, 0};
        for (int state = 2; state < 12; state++) {
            beyond[state] = new int[] {1, 1, 1};
        }
        WordBench far = with(beyond);
        long before = far.digest();
        due("24 beyond 1500", far.colour(0), NONE);
        due("24 beyond 1500 its moves stay", far.digest(), before);
    }

    private static void apart() {
        WordBench x = withRing(4);
        x.letter(2);
        due("25 no lights", x.apart(0, 0, 1), NONE);
        x.light(0, 2, 1);
        due("25 ahead of the word", x.apart(0, 2, 1), 0);
        due("25 by one letter", x.apart(0, 0, 1), 1);
        due("25 by two", x.apart(0, 3, 0), 2);
        due("25 either way round", x.apart(0, 0, 3), 2);
        due("25 from itself", x.apart(0, 2, 2), NONE);
        checks.dueWord("25 the word stays", x, "2");
        x.move(0, 1, 0, NONE);
        due("25 both have all moves", x.apart(0, 0, 1), NONE);
        due("25 a missing light is none", x.apart(0, 3, 0), NONE);
        x.light(0, 3, 1);
        due("25 like lights", x.apart(0, 2, 3), 1);
        int[][] wrong = {{0, 4, 1}, {0, 1, 4}, {0, -1, 1}, {0, 1, -1}, {1, 0, 1}, {-1, 0, 1}, {0, MAX, MIN}};
        for (int[] w : wrong) {
            due("25 wrong numbers", x.apart(w[0], w[1], w[2]), BAD);
        }
    }

    private static void count() {
        WordBench x = new WordBench();
        x.machine(1, 1);
        x.ring(3);
        x.machine(0, 0);
        x.letter(0);
        x.letter(1);
        x.letter(2);
        due("26 machines", x.count(0), 2);
        due("26 letters", x.count(1), 3);
        due("26 too large", x.count(2), BAD);
        due("26 negative", x.count(-1), BAD);
        due("26 far off", x.count(MIN), BAD);
    }

    private static void digest() {
        WordBench x = new WordBench();
        x.machine(2, 2);
        x.move(0, 0, 1, 1);
        x.light(0, 1, 3);
        x.price(0, 0, 9);
        x.share(0, 1, 4);
        x.machine(1, 1);
        x.move(1, 0, 0, 0);
        x.letter(3);
        x.letter(1);
        int[] row = {2, 2, 0, -1, 1, 0, -1, -1, 3, 9, 1, 1, 4, 1, 1, 1, 0, 0, 1, 1, 2, 3, 1};
        long h = 163;
        for (int v : row) {
            h = 31 * h + v;
        }
        due("27 digest", x.digest(), h);
        due("27 digest once more", x.digest(), h);
    }
}
