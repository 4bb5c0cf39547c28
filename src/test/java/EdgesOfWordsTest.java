/** The edges that the document names for promises 10 to 22 (words, greedy, cheapest, chances), each a test of its own. */
final class EdgesOfWordsTest {
    private static final int NONE = Edges.NONE, BAD = Edges.BAD, FULL = Edges.FULL;
    private static final int MIN = Edges.MIN, MAX = Edges.MAX;

    private EdgesOfWordsTest() {
    }

    public static void main(String[] args) throws ReflectiveOperationException {
        Edges.run(EdgesOfWordsTest.class, 10, 22);
    }

    /** A word of 600 letters, found by a search, for an object is used for 512 calls. */
    private static WordBench with600() {
        WordBench x = Edges.with(Checks.FAR);
        Edges.due("600 letters are found", x.shortest(0, 1866), 600);
        return x;
    }

    /** Machines that have no word for states 0, 1, 2: one with no moves, one with all of them, two with some. */
    private static WordBench[] withoutWord() {
        return new WordBench[] {
            Edges.with(new int[][] {{NONE, NONE}, {NONE, NONE}, {NONE, NONE}}),
            Edges.with(new int[][] {{1, 0}, {2, 1}, {0, 2}}),
            Edges.with(new int[][] {{1, NONE}, {2, 0}, {0, 0}}),
            Edges.with(new int[][] {{0, NONE, NONE, 0}, {1, 0, NONE, NONE}, {NONE, 0, 0, NONE}})};
    }

    // ---- 10: empty

    static void promise10OfAnEmptyWord() {
        Edges.dueUnchanged("no letters", new WordBench(), (x, v) -> x.empty(), 0, 0);
    }

    static void promise10Of600Letters() {
        WordBench x = with600();
        Edges.due("how long it was", x.empty(), 600);
        Edges.due("empty", x.count(1), 0);
        Edges.due("empty already", x.empty(), 0);
        Edges.due("letter 0 is gone", x.letterAt(0), NONE);
        Edges.due("letter 599 is gone", x.letterAt(599), NONE);
    }

    static void promise10MachinesStay() {
        WordBench x = Edges.ringOf(3);
        long before = x.digest();
        x.letter(2);
        x.empty();
        Edges.due("as before", x.digest(), before);
    }

    // ---- 11: letter

    static void promise11Letters0To3() {
        Edges.range(WordBench::new, (x, v) -> x.letter(v), 0, 3);
        Edges.range(() -> Edges.whole(1, 1), (x, v) -> x.letter(v), 0, 3);
    }

    static void promise11HowLongItIs() {
        WordBench x = new WordBench();
        for (int i = 0; i < 200; i++) {
            Edges.due("letter " + i, x.letter(i % 4), i + 1);
        }
        for (int i = 0; i < 200; i++) {
            Edges.due("at its place: " + i, x.letterAt(i), i % 4);
        }
    }

    static void promise11The600thAndTheOneBehind() {
        WordBench x = Edges.ringOf(12);
        Edges.due("121 letters are found", x.shortest(0, 4095), 121);
        for (int i = 122; i < 600; i++) {
            x.letter(2);
        }
        Edges.due("599 letters", x.count(1), 599);
        Edges.due("the 600th", x.letter(3), 600);
        Edges.dueUnchanged("the one behind", x, (y, v) -> y.letter(v), 0, FULL);
        Edges.due("599", x.letterAt(599), 3);
        Edges.due("600", x.letterAt(600), NONE);
    }

    static void promise11BehindAWordOf600ThatWasFound() {
        for (int l = 0; l < 4; l++) {
            Edges.dueUnchanged("letter " + l, with600(), (x, v) -> x.letter(v), l, FULL);
        }
    }

    static void promise11BadAheadOfFull() {
        for (int v : new int[] {MIN, -1, 4, MAX}) {
            Edges.dueUnchanged("letter " + v, with600(), (x, w) -> x.letter(w), v, BAD);
        }
    }

    static void promise11RoomAgainWhenEmptied() {
        WordBench x = with600();
        x.empty();
        Edges.due("the first", x.letter(3), 1);
        Edges.dueWord("alone", x, "3");
    }

    static void promise11BehindAWordThatWasFound() {
        WordBench x = Edges.ringOf(3);
        Edges.due("found", x.shortest(0, 7), 4);
        Edges.due("one more", x.letter(2), 5);
        Edges.dueWord("behind it", x, "10012");
    }

    // ---- 12: letterAt

    static void promise12OfAnEmptyWord() {
        for (int i : new int[] {MIN, -1, 0, 1, 599, 600, MAX}) {
            Edges.dueUnchanged("letter " + i, new WordBench(), (x, v) -> x.letterAt(v), i, NONE);
        }
    }

    static void promise12TheLastAndTheOneBehind() {
        WordBench x = new WordBench();
        for (int length = 1; length <= 9; length++) {
            x.letter(length % 4);
            Edges.due("the last of " + length, x.letterAt(length - 1), length % 4);
            Edges.due("behind " + length, x.letterAt(length), NONE);
        }
    }

    static void promise12TheLastOf600() {
        WordBench x = with600();
        Edges.holds("599", x.letterAt(599) >= 0 && x.letterAt(599) <= 2);
        Edges.due("600", x.letterAt(600), NONE);
    }

    static void promise12FarOff() {
        WordBench x = new WordBench();
        x.letter(3);
        for (int i : new int[] {MIN, MIN + 1, -600, -2, -1, 2, 600, 601, 1 << 16, MAX - 1, MAX}) {
            Edges.dueUnchanged("letter " + i, x, (y, v) -> y.letterAt(v), i, NONE);
        }
    }

    static void promise12NotOfALongerWordBefore() {
        WordBench x = Edges.ringOf(4);
        x.shortest(0, 15);
        x.shortest(0, 9);
        Edges.dueWord("the shorter one", x, "1");
        Edges.due("the longer one's letter", x.letterAt(1), NONE);
    }

    // ---- 13: goes

    static void promise13MachinesThatAreThere() {
        Edges.machines((x, v) -> x.goes(v, 7));
    }

    static void promise13SetsThatAreThere() {
        Edges.sets((x, v) -> x.goes(0, v));
    }

    static void promise13BothNumbersWrong() {
        Edges.allWrong((x, v) -> x.goes(v, v));
    }

    static void promise13OfThatMachine() {
        WordBench x = Edges.sixRings();
        x.letter(0);
        for (int i = 0; i < 6; i++) {
            Edges.due("the last two states of " + i, x.goes(i, 3 << i), 1 | 1 << (1 + i));
        }
    }

    static void promise13ByTheMovesOfNow() {
        WordBench x = Edges.whole(3, 2);
        x.letter(1);
        Edges.due("as it was", x.goes(0, 4), 1);
        x.move(0, 2, 1, 1);
        Edges.due("as it is", x.goes(0, 4), 2);
        x.move(0, 2, 1, NONE);
        Edges.due("missing", x.goes(0, 4), NONE);
    }

    static void promise13ByTheEmptyWordToItself() {
        for (int n : new int[] {1, 5, 12}) {
            WordBench x = new WordBench();
            x.machine(n, 1);
            for (int set = 1; set < 1 << n && set < 400; set++) {
                Edges.due("set " + set, x.goes(0, set), set);
            }
            Edges.due("all", x.goes(0, (1 << n) - 1), (1 << n) - 1);
        }
    }

    static void promise13NotIfAMoveOfOneIsMissing() {
        for (int missing = 0; missing < 12; missing++) {
            WordBench x = Edges.whole(12, 2);
            x.letter(0);
            x.move(0, missing, 0, NONE);
            for (int state = 0; state < 12; state++) {
                Edges.due("just " + state, x.goes(0, 1 << state), state == missing ? NONE : 1 << (state + 1) % 12);
            }
            Edges.due("all", x.goes(0, 4095), NONE);
            Edges.due("all others", x.goes(0, 4095 & ~(1 << missing)), 4095 & ~(1 << (missing + 1) % 12));
        }
    }

    static void promise13MissingAtTheFirstOrLastLetter() {
        WordBench x = Edges.with(new int[][] {{1, NONE}, {2, 0}, {2, NONE}});
        Edges.spell(x, "001");
        Edges.due("the last letter", x.goes(0, 1), NONE);
        Edges.spell(x, "00");
        Edges.due("without it", x.goes(0, 1), 4);
        Edges.spell(x, "100");
        Edges.due("the first letter", x.goes(0, 1), NONE);
        Edges.due("of a state that has it", x.goes(0, 2), 4);
    }

    static void promise13WithNoMoves() {
        WordBench x = new WordBench();
        x.machine(12, 4);
        x.letter(3);
        Edges.due("one", x.goes(0, 1), NONE);
        Edges.due("all", x.goes(0, 4095), NONE);
    }

    static void promise13ALetterThatIsNotThere() {
        for (int k = 1; k <= 4; k++) {
            for (int l = 0; l < 4; l++) {
                WordBench x = Edges.whole(2, k);
                x.letter(l);
                Edges.due("letter " + l + " of " + k, x.goes(0, 1), l >= k ? BAD : l == 0 ? 2 : 1);
            }
        }
    }

    static void promise13ALetterThatIsNotThereAtEachPlace() {
        for (String word : new String[] {"200", "020", "002", "3", "0000000003"}) {
            WordBench x = Edges.whole(3, 2);
            Edges.spell(x, word);
            Edges.dueUnchanged("by " + word, x, (y, v) -> y.goes(0, v), 7, BAD);
        }
    }

    static void promise13BadAheadOfNone() {
        WordBench x = Edges.with(new int[][] {{NONE, NONE}, {0, 0}});
        Edges.spell(x, "02");
        Edges.due("a letter that is not there, behind a missing move", x.goes(0, 1), BAD);
        Edges.spell(x, "0");
        Edges.due("a missing move alone", x.goes(0, 1), NONE);
        Edges.due("a set that is not there", x.goes(0, 4), BAD);
    }

    static void promise13By600Letters() {
        WordBench x = with600();
        int to = x.goes(0, 1866);
        Edges.holds("to one state", to > 0 && to < 4096 && Integer.bitCount(to) == 1);
    }

    static void promise13ChangesNothing() {
        WordBench x = Edges.whole(3, 2);
        x.letter(0);
        Edges.dueUnchanged("to the next ones", x, (y, v) -> y.goes(0, v), 3, 6);
    }

    // ---- 14: shortest

    static void promise14MachinesThatAreThere() {
        Edges.machines((x, v) -> x.shortest(v, 7));
    }

    static void promise14SetsThatAreThere() {
        Edges.sets((x, v) -> x.shortest(0, v));
    }

    static void promise14BothNumbersWrong() {
        Edges.allWrong((x, v) -> x.shortest(v, v));
    }

    static void promise14OfThatMachine() {
        WordBench x = Edges.sixRings();
        for (int i = 0; i < 6; i++) {
            Edges.due("machine " + i, x.shortest(i, (4 << i) - 1), (i + 1) * (i + 1));
        }
    }

    static void promise14ByTheMovesOfNow() {
        WordBench x = Edges.ringOf(3);
        Edges.dueFound("as it was", x, x.shortest(0, 7), "1001");
        x.move(0, 1, 1, 0);
        Edges.dueFound("as it is", x, x.shortest(0, 7), "1");
        x.move(0, 1, 1, NONE);
        Edges.dueUnchanged("missing", x, (y, v) -> y.shortest(0, v), 7, NONE);
    }

    static void promise14OfOneStateTheEmptyWord() {
        for (int state = 0; state < 12; state++) {
            WordBench x = new WordBench();
            x.machine(12, 1);
            x.letter(3);
            Edges.dueFound("with no moves", x, x.shortest(0, 1 << state), "");
        }
        WordBench least = Edges.whole(1, 1);
        Edges.dueFound("of the least machine", least, least.shortest(0, 1), "");
    }

    static void promise14TheWordThatIsNotFound() {
        for (WordBench x : withoutWord()) {
            Edges.spell(x, "3210");
            Edges.dueUnchanged("all", x, (y, v) -> y.shortest(0, v), 7, NONE);
            Edges.dueWord("stays", x, "3210");
        }
    }

    static void promise14TheShorterOneFirst() {
        WordBench x = Edges.with(new int[][] {{2, 0}, {3, 0}, {2, 2}, {2, 3}});
        Edges.dueFound("1, not 00", x, x.shortest(0, 3), "1");
    }

    static void promise14TheFirstOfLikeLength() {
        WordBench x = Edges.with(new int[][] {{2, 4}, {3, 5}, {2, 6}, {3, 6}, {6, 4}, {6, 5}, {6, 6}});
        Edges.dueFound("01, not 10", x, x.shortest(0, 3), "01");
        WordBench y = Edges.with(new int[][] {{2, 2, 2}, {3, 3, 3}, {2, 4, 4}, {3, 4, 4}, {4, 4, 4}});
        Edges.dueFound("the last letter differs", y, y.shortest(0, 3), "01");
    }

    static void promise14TheFirstThatLeadsThere() {
        WordBench x = Edges.with(new int[][] {{2, 2}, {3, 3}, {4, 4}, {4, 4}, {4, 4}});
        Edges.dueFound("each letter leads the same way", x, x.shortest(0, 3), "00");
    }

    static void promise14ByTheLastLetterAlone() {
        WordBench x = Edges.with(new int[][] {{0, 0, 0, 1}, {1, 1, 1, 1}});
        Edges.dueFound("letter 3", x, x.shortest(0, 3), "3");
    }

    static void promise14WithSomeMoves() {
        WordBench x = Edges.with(new int[][] {{0, 1}, {0, 2}, {NONE, 2}});
        Edges.dueFound("two that have it", x, x.shortest(0, 3), "0");
        Edges.dueFound("another way for all", x, x.shortest(0, 7), "11");
    }

    static void promise14TheMostStates() {
        WordBench x = Edges.ringOf(12);
        Edges.due("how long", x.shortest(0, 4095), 121);
        Edges.due("as told", x.count(1), 121);
        Edges.due("right", x.goes(0, 4095), 1);
    }

    static void promise14At600LettersAndOneMore() {
        WordBench x = Edges.with(Checks.FAR);
        Edges.spell(x, "2");
        Edges.dueUnchanged("601 are told", x, (y, v) -> y.shortest(0, v), 2409, 601);
        Edges.dueUnchanged("633 are told", x, (y, v) -> y.shortest(0, v), 630, 633);
        Edges.due("600", x.shortest(0, 1866), 600);
        Edges.due("become the word", x.count(1), 600);
    }

    // ---- 15: shortestTo

    static void promise15MachinesThatAreThere() {
        Edges.machines((x, v) -> x.shortestTo(v, 7, 0));
    }

    static void promise15SetsThatAreThere() {
        Edges.sets((x, v) -> x.shortestTo(0, v, 0));
    }

    static void promise15StatesThatAreThere() {
        Edges.states((x, v) -> x.shortestTo(0, 1, v));
    }

    static void promise15AllNumbersWrong() {
        Edges.allWrong((x, v) -> x.shortestTo(v, v, v));
    }

    static void promise15OfThatMachine() {
        WordBench x = Edges.sixRings();
        for (int i = 0; i < 6; i++) {
            Edges.due("machine " + i, x.shortestTo(i, (4 << i) - 1, i + 1), (i + 1) * (i + 2));
        }
    }

    static void promise15FromThatStateTheEmptyWord() {
        for (int state = 0; state < 12; state++) {
            WordBench x = new WordBench();
            x.machine(12, 1);
            x.letter(3);
            Edges.dueFound("with no moves", x, x.shortestTo(0, 1 << state, state), "");
        }
    }

    static void promise15FromAnotherStateWithNoMoves() {
        WordBench x = new WordBench();
        x.machine(12, 4);
        x.letter(3);
        Edges.dueUnchanged("none", x, (y, v) -> y.shortestTo(0, 1, v), 11, NONE);
    }

    static void promise15TheWordThatIsNotFound() {
        for (WordBench x : withoutWord()) {
            Edges.spell(x, "3210");
            for (int q = 0; q < 3; q++) {
                Edges.dueUnchanged("to " + q, x, (y, v) -> y.shortestTo(0, 7, v), q, NONE);
            }
            Edges.dueWord("stays", x, "3210");
        }
    }

    static void promise15NoneToTheOtherState() {
        WordBench x = Edges.with(new int[][] {{0}, {0}});
        x.letter(1);
        Edges.dueUnchanged("to 1", x, (y, v) -> y.shortestTo(0, 3, v), 1, NONE);
        Edges.dueFound("to 0", x, x.shortestTo(0, 3, 0), "0");
    }

    static void promise15JustTheState() {
        WordBench x = Edges.with(new int[][] {{0, 1}, {1, 1}});
        Edges.dueFound("a set with one more is not enough", x, x.shortestTo(0, 3, 1), "1");
    }

    static void promise15OnThroughAnotherState() {
        WordBench x = Edges.ringOf(4);
        Edges.dueFound("behind state 0", x, x.shortestTo(0, 15, 2), "10001000100");
        Edges.dueFound("the farthest", x, x.shortestTo(0, 15, 3), "100010001000");
    }

    static void promise15TheFirstOfLikeLength() {
        WordBench x = Edges.with(new int[][] {{2, 1, 3}, {2, 3, 1}, {3, 2, 2}, {3, 3, 3}});
        Edges.dueFound("00, not 02 nor 11", x, x.shortestTo(0, 1, 3), "2");
        Edges.dueFound("of two", x, x.shortestTo(0, 3, 3), "00");
    }

    static void promise15At600LettersAndOneMore() {
        WordBench x = Edges.with(Checks.FAR);
        Edges.spell(x, "2");
        int of601 = 0;
        for (int q = 0; q < 12; q++) {
            of601 += x.shortestTo(0, 2409, q) == 601 ? 1 : 0;
            Edges.dueWord("601 do not become the word", x, "2");
        }
        Edges.due("601 are told of one state", of601, 1);
        int of600 = 0;
        for (int q = 0; q < 12; q++) {
            if (x.shortestTo(0, 1866, q) == 600) {
                of600++;
                Edges.due("600 become the word", x.count(1), 600);
            }
        }
        Edges.due("600 are told of one state", of600, 1);
    }

    // ---- 16: rank

    static void promise16MachinesThatAreThere() {
        Edges.machines((x, v) -> x.rank(v, 7));
    }

    static void promise16SetsThatAreThere() {
        Edges.sets((x, v) -> x.rank(0, v));
    }

    static void promise16BothNumbersWrong() {
        Edges.allWrong((x, v) -> x.rank(v, v));
    }

    static void promise16OfThatMachine() {
        WordBench x = new WordBench();
        for (int i = 0; i < 6; i++) {
            x.machine(1 + i, 1);
        }
        for (int i = 0; i < 6; i++) {
            Edges.due("machine " + i, x.rank(i, (2 << i) - 1), 1 + i);
        }
    }

    static void promise16OfOneState() {
        WordBench x = new WordBench();
        x.machine(12, 4);
        x.letter(1);
        Edges.due("one", x.rank(0, 2048), 1);
        Edges.dueWord("by the empty word", x, "");
    }

    static void promise16WithNoMoves() {
        for (int n = 1; n <= 12; n++) {
            WordBench x = new WordBench();
            x.machine(n, 1);
            x.letter(1);
            Edges.due("all " + n, x.rank(0, (1 << n) - 1), n);
            Edges.dueWord("by the empty word", x, "");
        }
    }

    static void promise16WithMovesThatSwap() {
        WordBench x = Edges.with(new int[][] {{1, 0}, {2, 2}, {0, 1}});
        x.letter(1);
        Edges.due("three", x.rank(0, 7), 3);
        Edges.dueWord("by the empty word", x, "");
        Edges.due("two", x.rank(0, 6), 2);
    }

    static void promise16WithSomeMoves() {
        WordBench x = Edges.with(new int[][] {{0, NONE}, {0, 1}, {2, 0}, {3, NONE}});
        Edges.due("not by a move that one has not", x.rank(0, 15), 3);
        Edges.dueWord("by the one there is", x, "0");
        Edges.due("without those", x.rank(0, 6), 1);
        Edges.dueWord("by both", x, "10");
    }

    static void promise16TheFirstOfLikeSets() {
        // by 1 to 0, 1; by 2 to 0, 2; no word brings 0 and the others together
        WordBench x = Edges.with(new int[][] {{0, 0, 2}, {1, 1, 0}, {2, 1, 0}});
        Edges.due("two", x.rank(0, 7), 2);
        Edges.dueWord("1, not 2", x, "1");
        Edges.due("two already", x.rank(0, 3), 2);
        Edges.dueWord("as it is, though others are like", x, "");
    }

    static void promise16NotTheFirstThatIsFewer() {
        WordBench x = Edges.with(new int[][] {{0, 1}, {0, 2}, {2, 3}, {3, 3}});
        Edges.due("one", x.rank(0, 15), 1);
        Edges.dueWord("not 0", x, "111");
    }

    static void promise16At600LettersAndOneMore() {
        WordBench x = Edges.with(Checks.FAR);
        Edges.spell(x, "2");
        Edges.dueUnchanged("behind 601", x, (y, v) -> y.rank(0, v), 2409, 1);
        Edges.due("behind 600", x.rank(0, 1866), 1);
        Edges.due("they become the word", x.count(1), 600);
    }

    // ---- 17: merge

    static void promise17MachinesThatAreThere() {
        Edges.machines((x, v) -> x.merge(v, 2, 0));
    }

    static void promise17StatesThatAreThere() {
        for (int n : new int[] {2, 3, 12}) {
            int last = n - 1;
            Edges.range(() -> Edges.whole(last + 1, 2), (x, v) -> x.merge(0, v, last), 0, last - 1);
            Edges.range(() -> Edges.whole(last + 1, 2), (x, v) -> x.merge(0, last, v), 0, last - 1);
            Edges.dueUnchanged("behind the last", Edges.whole(n, 2), (x, v) -> x.merge(0, v, 0), n, BAD);
            Edges.dueUnchanged("behind the last, second", Edges.whole(n, 2), (x, v) -> x.merge(0, 0, v), n, BAD);
            Edges.due("the last", Edges.whole(n, 2).merge(0, last, 0), 1);
        }
    }

    static void promise17AllNumbersWrong() {
        Edges.allWrong((x, v) -> x.merge(v, v, v));
        Edges.allWrong((x, v) -> x.merge(0, v, v));
    }

    static void promise17OfThatMachine() {
        WordBench x = Edges.sixRings();
        for (int i = 0; i < 6; i++) {
            int longest = 0;
            for (int q = 1; q < 2 + i; q++) {
                longest = Math.max(longest, x.merge(i, 0, q));
            }
            Edges.due("state 0 and the next one of " + i, x.merge(i, 0, 1), i == 0 ? 1 : 2 + i);
            Edges.due("state 0 and the last one of " + i, x.merge(i, 0, 1 + i), 1);
            Edges.holds("no longer than the pairs there are", longest <= (2 + i) * (1 + i) / 2);
        }
    }

    static void promise17ByTheMovesOfNow() {
        WordBench x = Edges.ringOf(3);
        Edges.due("as it was", x.merge(0, 0, 1), 3);
        x.move(0, 1, 1, 0);
        Edges.due("as it is", x.merge(0, 0, 1), 1);
        x.move(0, 1, 1, NONE);
        x.move(0, 1, 0, NONE);
        Edges.due("missing", x.merge(0, 0, 1), NONE);
    }

    static void promise17BothLike() {
        for (int n : new int[] {1, 2, 12}) {
            for (int p = 0; p < n; p++) {
                Edges.dueUnchanged("state " + p, Edges.whole(n, 2), (x, v) -> x.merge(0, v, v), p, BAD);
            }
        }
        for (int v : new int[] {MIN, -1, 12, MAX}) {
            Edges.dueUnchanged("both not there", Edges.whole(12, 2), (x, w) -> x.merge(0, w, w), v, BAD);
        }
    }

    static void promise17NoneWithNoMoves() {
        WordBench x = new WordBench();
        x.machine(12, 4);
        for (int p = 0; p < 12; p++) {
            for (int q = 0; q < 12; q++) {
                Edges.due(p + " " + q, x.merge(0, p, q), p == q ? BAD : NONE);
            }
        }
    }

    static void promise17NoneWithMovesThatSwap() {
        WordBench x = Edges.with(new int[][] {{1, 0}, {2, 2}, {0, 1}});
        for (int p = 0; p < 3; p++) {
            Edges.due("with the next", x.merge(0, p, (p + 1) % 3), NONE);
        }
    }

    static void promise17WithSomeMoves() {
        WordBench x = Edges.with(new int[][] {{NONE, 2}, {0, 3}, {2, NONE}, {2, NONE}});
        Edges.due("the way round", x.merge(0, 0, 1), 2);
        Edges.due("both lead to one", x.merge(0, 2, 3), 1);
        Edges.due("no letter of both", x.merge(0, 0, 2), NONE);
        x.move(0, 3, 0, NONE);
        Edges.due("no way then", x.merge(0, 0, 1), NONE);
    }

    static void promise17TheLongest() {
        WordBench x = Edges.ringOf(12);
        long seen = 0;
        long sum = 0;
        for (int p = 0; p < 12; p++) {
            for (int q = p + 1; q < 12; q++) {
                int length = x.merge(0, p, q);
                Edges.due("either way round", x.merge(0, q, p), length);
                seen += length == 66 ? 1 : 0;
                sum += length;
            }
        }
        Edges.due("66 letters at most, of one pair", seen, 1);
        Edges.due("each length from 1 to 66 once", sum, 66 * 67 / 2);
    }

    static void promise17TheWordStays() {
        WordBench x = Edges.ringOf(4);
        Edges.spell(x, "32");
        Edges.dueUnchanged("found", x, (y, v) -> y.merge(0, 0, v), 2, 6);
        x.machine(2, 1);
        Edges.dueUnchanged("none", x, (y, v) -> y.merge(1, 0, v), 1, NONE);
        Edges.dueWord("stays", x, "32");
    }

    // ---- 18: unmerged

    static void promise18MachinesThatAreThere() {
        Edges.machines((x, v) -> x.unmerged(v));
    }

    static void promise18OfThatMachine() {
        WordBench x = new WordBench();
        for (int i = 0; i < 6; i++) {
            x.machine(1 + i, 1);
        }
        for (int i = 0; i < 6; i++) {
            Edges.due("machine " + i, x.unmerged(i), i * (i + 1) / 2);
        }
    }

    static void promise18AllWithNoMoves() {
        for (int n = 1; n <= 12; n++) {
            WordBench x = new WordBench();
            x.machine(n, 4);
            Edges.due("of " + n, x.unmerged(0), n * (n - 1) / 2);
        }
    }

    static void promise18AllWithMovesThatSwap() {
        Edges.due("three", Edges.with(new int[][] {{1, 0}, {2, 2}, {0, 1}}).unmerged(0), 3);
    }

    static void promise18NoneWhereAllComeTogether() {
        for (int n = 1; n <= 12; n++) {
            Edges.due("of " + n, Edges.whole(n, 2).unmerged(0), 0);
        }
    }

    static void promise18JustOne() {
        // 0 and 1 stay apart; each other state has a way to both
        WordBench x = Edges.with(new int[][] {{0, 0}, {1, 1}, {0, 1}});
        Edges.due("0 and 1", x.unmerged(0), 1);
        Edges.due("0 and 2 have a word", x.merge(0, 0, 2), 1);
        Edges.due("1 and 2 have a word", x.merge(0, 1, 2), 1);
    }

    static void promise18WithSomeMoves() {
        Edges.due("one pair has a word", Edges.with(new int[][] {{NONE, 2}, {0, 3}, {2, NONE}, {2, NONE}}).unmerged(0), 4);
    }

    static void promise18ChangesNothing() {
        WordBench x = Edges.ringOf(3);
        x.letter(3);
        Edges.dueUnchanged("none", x, (y, v) -> y.unmerged(v), 0, 0);
    }

    // ---- 19: greedy

    static void promise19MachinesThatAreThere() {
        Edges.machines((x, v) -> x.greedy(v, 7));
    }

    static void promise19SetsThatAreThere() {
        Edges.sets((x, v) -> x.greedy(0, v));
    }

    static void promise19BothNumbersWrong() {
        Edges.allWrong((x, v) -> x.greedy(v, v));
    }

    static void promise19OfOneStateTheEmptyWord() {
        for (int state = 0; state < 12; state++) {
            WordBench x = new WordBench();
            x.machine(12, 1);
            x.letter(3);
            Edges.dueFound("with no moves", x, x.greedy(0, 1 << state), "");
        }
    }

    static void promise19OfTwoStatesTheirFirstWord() {
        WordBench x = Edges.ringOf(4);
        Edges.dueFound("0 and 2", x, x.greedy(0, 5), "010001");
    }

    static void promise19TheWordThatIsNotFound() {
        for (WordBench x : withoutWord()) {
            Edges.spell(x, "3210");
            Edges.dueUnchanged("all", x, (y, v) -> y.greedy(0, v), 7, NONE);
            Edges.dueWord("stays", x, "3210");
        }
    }

    static void promise19TheWordStaysWhereJustTheFirstPairComesTogether() {
        WordBench x = Edges.with(new int[][] {{0}, {0}, {2}});
        x.letter(3);
        Edges.dueUnchanged("0 and 1 alone", x, (y, v) -> y.greedy(0, v), 7, NONE);
        Edges.dueWord("stays", x, "3");
        Edges.dueFound("without the third", x, x.greedy(0, 3), "0");
    }

    static void promise19TheShorterWordFirst() {
        // 0, 1 come together by 11, 1, 2 by 0
        WordBench x = Edges.with(new int[][] {{0, 2}, {1, 3}, {1, 4}, {3, 4}, {4, 4}});
        Edges.dueFound("1, 2 ahead of 0, 1", x, x.greedy(0, 7), "011");
    }

    static void promise19TheFirstLetterThatDiffers() {
        // 0, 1 come together by 1; 2, 3 by 0
        WordBench x = Edges.with(new int[][] {{1, 4}, {2, 4}, {3, 0}, {3, 1}, {4, 4}});
        Edges.dueFound("2, 3 ahead of 0, 1", x, x.greedy(0, 15), "000");
    }

    static void promise19TheWholeSetMustGo() {
        // the first word of 0, 1 is 0, which 2 has not; that of 1, 2 is 1
        WordBench x = Edges.with(new int[][] {{0, 1}, {0, 2}, {NONE, 2}});
        Edges.dueFound("not 0", x, x.greedy(0, 7), "11");
        Edges.dueFound("0, where 2 is not there", x, x.greedy(0, 3), "0");
    }

    static void promise19JustTheFirstWordOfEachPair() {
        // each pair's first word is missing for the third; 1 would do for 0, 1, and 2 then
        WordBench x = Edges.with(new int[][] {{0, 0, 0, NONE}, {0, 0, NONE, 0}, {NONE, 2, 0, 0}});
        x.letter(3);
        Edges.dueUnchanged("none of them", x, (y, v) -> y.greedy(0, v), 7, NONE);
        Edges.dueFound("though there is a word", x, x.shortest(0, 7), "12");
    }

    static void promise19TheMostStates() {
        WordBench x = Edges.ringOf(12);
        Edges.due("how long", x.greedy(0, 4095), 154);
        Edges.due("as told", x.count(1), 154);
        Edges.due("right", x.goes(0, 4095), 1);
    }

    static void promise19ALongWord() {
        // the longest that was found: no machine is known by which the 600 letters are too few
        WordBench x = Edges.with(new int[][] {
            {0, 10, NONE, 0}, {1, 5, NONE, 1}, {2, 7, 9, NONE}, {3, 2, NONE, 3}, {4, 11, 1, 4}, {5, 4, NONE, 5},
            {NONE, 9, NONE, 6}, {7, 8, NONE, 7}, {8, 1, NONE, 8}, {9, 0, NONE, 9}, {10, 3, NONE, 10}, {6, 6, 8, 6}});
        Edges.due("how long", x.greedy(0, 3967), 373);
        Edges.due("as told", x.count(1), 373);
        Edges.due("right", Integer.bitCount(x.goes(0, 3967)), 1);
    }

    static void promise19EachRing() {
        int[] due = {1, 4, 10, 17, 27, 43, 62, 78, 97, 122, 154};
        for (int n = 2; n <= 12; n++) {
            WordBench x = Edges.ringOf(n);
            int length = x.greedy(0, (1 << n) - 1);
            Edges.holds("no shorter than the shortest: " + n, length >= (n - 1) * (n - 1));
            Edges.due("right", Integer.bitCount(x.goes(0, (1 << n) - 1)), 1);
            Edges.due("ring " + n, length, due[n - 2]);
        }
    }

    // ---- 20: cheapest

    static void promise20MachinesThatAreThere() {
        Edges.machines((x, v) -> x.cheapest(v, 7));
    }

    static void promise20SetsThatAreThere() {
        Edges.sets((x, v) -> x.cheapest(0, v));
    }

    static void promise20BothNumbersWrong() {
        Edges.allWrong((x, v) -> x.cheapest(v, v));
    }

    static void promise20OfThatMachine() {
        WordBench x = Edges.sixRings();
        for (int i = 0; i < 6; i++) {
            Edges.due("machine " + i, x.cheapest(i, (4 << i) - 1), (i + 1) * (i + 1));
        }
    }

    static void promise20OfOneStateNothing() {
        for (int state = 0; state < 12; state++) {
            WordBench x = new WordBench();
            x.machine(12, 1);
            x.letter(3);
            Edges.due("with no moves", x.cheapest(0, 1 << state), 0);
            Edges.dueWord("by the empty word", x, "");
        }
    }

    static void promise20TheWordThatIsNotFound() {
        for (WordBench x : withoutWord()) {
            Edges.spell(x, "3210");
            Edges.dueUnchanged("all", x, (y, v) -> y.cheapest(0, v), 7, NONE);
            Edges.dueWord("stays", x, "3210");
        }
    }

    static void promise20TheLeastAndTheMostPrices() {
        WordBench x = Edges.ringOf(12);
        Edges.due("of 1", x.cheapest(0, 4095), 121);
        Edges.due("as long", x.count(1), 121);
        x.price(0, 0, 20);
        x.price(0, 1, 20);
        Edges.due("of 20", x.cheapest(0, 4095), 2420);
        Edges.due("as long then", x.count(1), 121);
    }

    static void promise20PricesOfThatMachine() {
        WordBench x = new WordBench();
        x.ring(2);
        x.ring(2);
        x.price(0, 1, 20);
        Edges.due("20", x.cheapest(0, 3), 20);
        Edges.due("1 still", x.cheapest(1, 3), 1);
    }

    static void promise20ARefusedPriceIsNone() {
        WordBench x = Edges.ringOf(2);
        x.price(0, 1, 0);
        x.price(0, 1, 21);
        Edges.due("1 still", x.cheapest(0, 3), 1);
    }

    static void promise20TheLeastSetFirst() {
        // by 0 to 4, 5, by 1 to 2, 3, all of like sums: 2, 3 is the lesser number
        WordBench x = Edges.with(new int[][] {{4, 2}, {5, 3}, {6, 2}, {7, 3}, {6, 4}, {7, 5}, {0, 6}, {0, 7}});
        Edges.due("three letters", x.cheapest(0, 3), 3);
        Edges.dueWord("not 000", x, "100");
        Edges.dueFound("the first word is another", x, x.shortest(0, 3), "000");
    }

    static void promise20TheLeastSetOfOneState() {
        WordBench x = Edges.with(new int[][] {{3, 2}, {3, 2}, {2, 2}, {3, 3}});
        Edges.due("one letter", x.cheapest(0, 3), 1);
        Edges.dueWord("to 2, not to 3", x, "1");
    }

    static void promise20ALikeSumReplacesNone() {
        WordBench x = Edges.with(new int[][] {{2, 2}, {2, 2}, {2, 2}});
        Edges.due("by each letter to one set", x.cheapest(0, 3), 1);
        Edges.dueWord("the first stays", x, "0");
    }

    static void promise20AGreaterSumIsReplaced() {
        WordBench x = Edges.with(new int[][] {{2, 2}, {2, 2}, {2, 2}});
        x.price(0, 0, 2);
        Edges.due("by the cheaper letter", x.cheapest(0, 3), 1);
        Edges.dueWord("the second", x, "1");
        // by 0 to 4, 5 at once; by 11 for less
        WordBench y = Edges.with(new int[][] {{4, 2}, {5, 3}, {2, 4}, {3, 5}, {4, 0}, {5, 0}});
        y.price(0, 0, 3);
        Edges.due("by three cheap ones", y.cheapest(0, 3), 3);
        Edges.dueWord("not 01", y, "111");
        y.price(0, 0, 2);
        Edges.due("of like sums", y.cheapest(0, 3), 3);
        Edges.dueWord("01 was there first", y, "01");
    }

    static void promise20WithSomeMoves() {
        WordBench x = Edges.with(new int[][] {{0, 1}, {0, 2}, {NONE, 2}});
        x.price(0, 1, 20);
        Edges.due("two that have the cheap one", x.cheapest(0, 3), 1);
        Edges.due("all", x.cheapest(0, 7), 40);
        Edges.dueWord("by the dear one", x, "11");
    }

    static void promise20At600LettersAndOneMore() {
        WordBench x = Edges.with(Checks.FAR);
        for (int l = 0; l < 3; l++) {
            x.price(0, l, 20);
        }
        Edges.spell(x, "2");
        Edges.dueUnchanged("601", x, (y, v) -> y.cheapest(0, v), 2409, 601 * 20);
        Edges.due("600", x.cheapest(0, 1866), 600 * 20);
        Edges.due("become the word", x.count(1), 600);
    }

    static void promise20ManySearchesBeforeDoNotMatter() {
        // each search ends with some 1600 sets that have a sum and are not settled
        WordBench x = new WordBench();
        x.machine(12, 4);
        for (int s = 0; s < 12; s++) {
            x.move(0, s, 0, (s + 1) % 12);
            x.move(0, s, 1, s == 7 ? 6 : s);
            x.move(0, s, 2, (12 - s) % 12);
            x.move(0, s, 3, (7 * s + 1) % 12);
        }
        x.price(0, 2, 4);
        x.price(0, 3, 17);
        for (int i = 0; i < 400; i++) {
            Edges.due("search " + i, x.cheapest(0, 4095), 21);
        }
        Edges.due("right", Integer.bitCount(x.goes(0, 4095)), 1);
    }

    // ---- 21: chance

    static void promise21MachinesThatAreThere() {
        Edges.machines((x, v) -> x.chance(v, 7, 1));
    }

    static void promise21SetsThatAreThere() {
        Edges.sets((x, v) -> x.chance(0, v, 1));
    }

    static void promise21Times0To12() {
        Edges.range(() -> Edges.whole(3, 2), (x, v) -> x.chance(0, 7, v), 0, 12);
    }

    static void promise21AllNumbersWrong() {
        Edges.allWrong((x, v) -> x.chance(v, v, v));
    }

    static void promise21OfThatMachine() {
        WordBench x = Edges.sixRings();
        for (int i = 0; i < 6; i++) {
            x.share(i, 0, i);
            x.share(i, 1, 5);
        }
        for (int i = 0; i < 6; i++) {
            Edges.due("both letters of " + i, x.chance(i, 1, 2), (5 + i) * (5 + i));
            Edges.due("the last state and state 0 of " + i, x.chance(i, 1 | 2 << i, 1), 5);
        }
    }

    static void promise21OfNoLetters() {
        WordBench x = new WordBench();
        x.machine(3, 1);
        for (int set = 1; set < 8; set++) {
            Edges.due("set " + set, x.chance(0, set, 0), Integer.bitCount(set) == 1 ? 1 : 0);
        }
    }

    static void promise21EachTimeOfTheLeastRing() {
        WordBench x = Edges.ringOf(2);
        for (int t = 0; t <= 12; t++) {
            Edges.due("all words but one of " + t, x.chance(0, 3, t), (1 << t) - 1);
            Edges.due("all words from one state of " + t, x.chance(0, 2, t), 1 << t);
        }
    }

    static void promise21SharesThatAreAll0() {
        WordBench x = Edges.ringOf(2);
        x.share(0, 0, 0);
        x.share(0, 1, 0);
        Edges.due("one state, no letters", x.chance(0, 1, 0), 1);
        Edges.due("two states, no letters", x.chance(0, 3, 0), 0);
        for (int t = 1; t <= 12; t++) {
            Edges.due("one state, letters " + t, x.chance(0, 1, t), 0);
            Edges.due("two states, letters " + t, x.chance(0, 3, t), 0);
        }
    }

    static void promise21OneShareIs0() {
        WordBench x = Edges.ringOf(2);
        x.share(0, 0, 0);
        x.share(0, 1, 5);
        long due = 1;
        for (int t = 1; t <= 12; t++) {
            due *= 5;
            Edges.due("by 1 alone " + t, x.chance(0, 3, t), due);
        }
        x.share(0, 0, 1);
        x.share(0, 1, 0);
        Edges.due("never by 1", x.chance(0, 3, 12), 0);
    }

    static void promise21TheMostShares() {
        WordBench x = Edges.whole(1, 4);
        for (int l = 0; l < 4; l++) {
            x.share(0, l, 5);
        }
        Edges.due("above an int", x.chance(0, 1, 12), 4096000000000000L);
        Edges.due("just above an int", x.chance(0, 1, 8), 25600000000L);
        Edges.due("within an int", x.chance(0, 1, 7), 1280000000L);
    }

    static void promise21WithNoMoves() {
        WordBench x = new WordBench();
        x.machine(12, 4);
        for (int t = 1; t <= 12; t++) {
            Edges.due("one state " + t, x.chance(0, 1, t), 0);
        }
    }

    static void promise21WithSomeMoves() {
        WordBench x = Edges.with(new int[][] {{0, NONE}, {0, 1}});
        x.share(0, 0, 2);
        x.share(0, 1, 5);
        Edges.due("one way on for the word that is right already", x.chance(0, 3, 2), 4);
        Edges.due("it must go wholly", x.chance(0, 1, 2), 4);
        Edges.due("all ways", x.chance(0, 2, 2), 4 + 10 + 25);
    }

    static void promise21ChangesNothing() {
        WordBench x = Edges.ringOf(2);
        x.letter(3);
        x.share(0, 0, 2);
        Edges.due("at once", x.chance(0, 3, 1), 1);
        long before = x.digest();
        Edges.due("later", x.chance(0, 3, 2), 5);
        Edges.due("nothing changed", x.digest(), before);
    }

    static void promise21PricesDoNotMatter() {
        WordBench x = Edges.ringOf(2);
        x.price(0, 1, 20);
        Edges.due("at once", x.chance(0, 3, 1), 1);
    }

    // ---- 22: chances

    static void promise22MachinesThatAreThere() {
        Edges.machines((x, v) -> x.chances(v, 1));
    }

    static void promise22Times0To12() {
        Edges.range(() -> Edges.whole(3, 2), (x, v) -> x.chances(0, v), 0, 12);
    }

    static void promise22BothNumbersWrong() {
        Edges.allWrong((x, v) -> x.chances(v, v));
    }

    static void promise22EachSumOfShares() {
        for (int w = 0; w <= 20; w++) {
            WordBench x = new WordBench();
            x.machine(1, 4);
            for (int l = 0; l < 4; l++) {
                x.share(0, l, Math.max(0, Math.min(5, w - 5 * l)));
            }
            long due = 1;
            for (int t = 0; t <= 12; t++) {
                Edges.due(w + " to the " + t, x.chances(0, t), due);
                due *= w;
            }
        }
    }

    static void promise22SharesThatAreAll0() {
        WordBench x = Edges.whole(1, 1);
        x.share(0, 0, 0);
        Edges.due("to the 0", x.chances(0, 0), 1);
        Edges.due("to the 1", x.chances(0, 1), 0);
        Edges.due("to the 12", x.chances(0, 12), 0);
    }

    static void promise22JustTheLettersOfThatMachine() {
        for (int k = 1; k <= 4; k++) {
            Edges.due("letters " + k, Edges.whole(2, k).chances(0, 1), k);
        }
        WordBench x = new WordBench();
        x.machine(1, 1);
        x.machine(1, 4);
        x.share(1, 3, 5);
        Edges.due("1", x.chances(0, 12), 1);
        Edges.due("8", x.chances(1, 2), 64);
    }

    static void promise22MovesDoNotMatter() {
        WordBench x = new WordBench();
        x.machine(12, 4);
        Edges.dueUnchanged("with no moves", x, (y, v) -> y.chances(0, v), 12, 1 << 24);
    }
}
