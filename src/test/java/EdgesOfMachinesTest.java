/** The edges that the document names for promises 1 to 9 (machines, moves, lights, prices, shares), each a test of its own. */
final class EdgesOfMachinesTest {
    private static final int NONE = Edges.NONE, BAD = Edges.BAD, FULL = Edges.FULL;
    private static final int MIN = Edges.MIN, MAX = Edges.MAX;

    private EdgesOfMachinesTest() {
    }

    public static void main(String[] args) throws ReflectiveOperationException {
        Edges.run(EdgesOfMachinesTest.class, 1, 9);
    }

    private static WordBench full() {
        WordBench x = new WordBench();
        for (int i = 0; i < 6; i++) {
            Edges.due("machine " + i, x.machine(1 + i, 1 + i % 4), i);
        }
        return x;
    }

    private static WordBench fullOfRings() {
        WordBench x = new WordBench();
        for (int i = 0; i < 6; i++) {
            Edges.due("ring " + i, x.ring(2 + i), i);
        }
        return x;
    }

    // ---- 1: a new object

    static void promise01NoMachines() {
        WordBench x = new WordBench();
        Edges.due("none", x.count(0), 0);
        for (int machine : new int[] {MIN, -1, 0, 1, 5, 6, MAX}) {
            Edges.due("not there: " + machine, x.about(machine, 0), BAD);
        }
    }

    static void promise01TheWordIsEmpty() {
        WordBench x = new WordBench();
        Edges.due("no letters", x.count(1), 0);
        Edges.due("no letter 0", x.letterAt(0), NONE);
        Edges.due("nothing to take away", x.empty(), 0);
        x.machine(3, 1);
        Edges.due("each set goes to itself by it", x.goes(0, 5), 5);
    }

    static void promise01ObjectsShareNothing() {
        WordBench x = new WordBench();
        WordBench y = new WordBench();
        x.ring(3);
        x.letter(1);
        x.shortest(0, 7);
        Edges.due("no machine of another object", y.count(0), 0);
        Edges.due("no word of another object", y.count(1), 0);
        Edges.due("as when new", y.digest(), new WordBench().digest());
    }

    static void promise01Refusals() {
        Edges.due("NONE", WordBench.NONE, -1);
        Edges.due("BAD", WordBench.BAD, -2);
        Edges.due("NO", WordBench.NO, -3);
        Edges.due("FULL", WordBench.FULL, -4);
    }

    // ---- 2: machine

    static void promise02States1To12() {
        Edges.range(WordBench::new, (x, v) -> x.machine(v, 1), 1, 12);
        Edges.range(WordBench::new, (x, v) -> x.machine(v, 4), 1, 12);
    }

    static void promise02Letters1To4() {
        Edges.range(WordBench::new, (x, v) -> x.machine(1, v), 1, 4);
        Edges.range(WordBench::new, (x, v) -> x.machine(12, v), 1, 4);
    }

    static void promise02BothNumbersWrong() {
        int[] wrong = {MIN, -1, 0, 13, MAX};
        for (int v : wrong) {
            Edges.dueUnchanged("both " + v, new WordBench(), (x, w) -> x.machine(w, w), v, BAD);
        }
    }

    static void promise02LettersAreNoStates() {
        Edges.due("states as many as letters may not be", new WordBench().machine(5, 4), 0);
        Edges.due("letters as many as states may be", new WordBench().machine(4, 5), BAD);
    }

    static void promise02EachSizeAsTold() {
        for (int n = 1; n <= 12; n++) {
            for (int k = 1; k <= 4; k++) {
                WordBench x = new WordBench();
                Edges.due(n + " " + k, x.machine(n, k), 0);
                Edges.due("states", x.about(0, 0), n);
                Edges.due("letters", x.about(0, 1), k);
                Edges.due("not whole", x.about(0, 2), 0);
            }
        }
    }

    static void promise02WithoutMoves() {
        WordBench x = new WordBench();
        x.machine(12, 4);
        for (int state = 0; state < 12; state++) {
            for (int l = 0; l < 4; l++) {
                Edges.due("move of " + state + " by " + l, x.moveOf(0, state, l), NONE);
            }
        }
    }

    static void promise02NumbersFromNoughtToFive() {
        Edges.due("six", full().count(0), 6);
    }

    static void promise02TheSeventhIsFull() {
        Edges.dueUnchanged("behind six", full(), (x, v) -> x.machine(v, v), 1, FULL);
        Edges.dueUnchanged("behind six, the largest", full(), (x, v) -> x.machine(12, v), 4, FULL);
        Edges.dueUnchanged("behind six rings", fullOfRings(), (x, v) -> x.machine(v, 1), 1, FULL);
    }

    static void promise02StillFullLater() {
        WordBench x = full();
        for (int i = 0; i < 100; i++) {
            Edges.due("again", x.machine(1, 1), FULL);
        }
        Edges.due("six", x.count(0), 6);
        Edges.due("no machine 6", x.about(6, 0), BAD);
    }

    static void promise02BadAheadOfFull() {
        for (int v : new int[] {MIN, -1, 0, 13, MAX}) {
            Edges.dueUnchanged("states " + v, full(), (x, w) -> x.machine(w, 1), v, BAD);
        }
        for (int v : new int[] {MIN, -1, 0, 5, MAX}) {
            Edges.dueUnchanged("letters " + v, full(), (x, w) -> x.machine(1, w), v, BAD);
        }
    }

    static void promise02ARefusedOneTakesNoNumber() {
        WordBench x = new WordBench();
        x.machine(0, 1);
        x.ring(1);
        Edges.due("first", x.machine(1, 1), 0);
        x.machine(13, 1);
        x.machine(1, 5);
        Edges.due("second", x.machine(1, 1), 1);
    }

    static void promise02TheWordStays() {
        WordBench x = new WordBench();
        x.letter(3);
        x.machine(1, 1);
        x.machine(0, 0);
        Edges.dueWord("stays", x, "3");
    }

    // ---- 3: ring

    static void promise03States2To12() {
        Edges.range(WordBench::new, (x, v) -> x.ring(v), 2, 12);
    }

    static void promise03EachMoveOfEachRing() {
        for (int n = 2; n <= 12; n++) {
            WordBench x = Edges.ringOf(n);
            Edges.due("states", x.about(0, 0), n);
            Edges.due("letters", x.about(0, 1), 2);
            Edges.due("whole", x.about(0, 2), 1);
            for (int state = 0; state < n - 1; state++) {
                Edges.due(n + ": to the next one", x.moveOf(0, state, 0), state + 1);
                Edges.due(n + ": to itself", x.moveOf(0, state, 1), state);
            }
            Edges.due(n + ": the last by 0", x.moveOf(0, n - 1, 0), 0);
            Edges.due(n + ": the last by 1", x.moveOf(0, n - 1, 1), 0);
        }
    }

    static void promise03NoThirdLetter() {
        Edges.due("letter 2", Edges.ringOf(2).moveOf(0, 0, 2), BAD);
    }

    static void promise03LightsPricesSharesAsOfNewMachines() {
        WordBench x = Edges.ringOf(12);
        for (int state = 0; state < 12; state++) {
            Edges.due("light", x.light(0, state, 0), 0);
        }
        for (int l = 0; l < 2; l++) {
            Edges.due("price", x.price(0, l, 1), 1);
            Edges.due("share", x.share(0, l, 1), 1);
        }
    }

    static void promise03TheSeventhIsFull() {
        Edges.dueUnchanged("behind six rings", fullOfRings(), (x, v) -> x.ring(v), 2, FULL);
        Edges.dueUnchanged("behind six rings, the largest", fullOfRings(), (x, v) -> x.ring(v), 12, FULL);
        Edges.dueUnchanged("behind six machines", full(), (x, v) -> x.ring(v), 2, FULL);
    }

    static void promise03BadAheadOfFull() {
        for (int v : new int[] {MIN, -1, 0, 1, 13, MAX}) {
            Edges.dueUnchanged("states " + v, fullOfRings(), (x, w) -> x.ring(w), v, BAD);
        }
    }

    static void promise03NumberedWithMachines() {
        WordBench x = new WordBench();
        Edges.due("ring", x.ring(2), 0);
        Edges.due("machine", x.machine(1, 1), 1);
        Edges.due("ring again", x.ring(3), 2);
    }

    // ---- 4: move

    static void promise04MachinesThatAreThere() {
        Edges.machines((x, v) -> x.move(v, 2, 1, 2));
        Edges.machines((x, v) -> x.move(v, 0, 0, NONE));
    }

    static void promise04StatesThatAreThere() {
        Edges.states((x, v) -> x.move(0, v, 1, 0));
        Edges.states((x, v) -> x.move(0, v, 0, NONE));
    }

    static void promise04LettersThatAreThere() {
        Edges.letters((x, v) -> x.move(0, 0, v, 1));
        Edges.letters((x, v) -> x.move(0, 1, v, NONE));
    }

    static void promise04ToAStateOrNone() {
        for (int n = 1; n <= 12; n++) {
            int many = n;
            Edges.range(() -> Edges.whole(many, 3), (x, v) -> x.move(0, many - 1, 2, v), NONE, many - 1);
        }
    }

    static void promise04NoOtherNegativeIsNone() {
        for (int v : new int[] {MIN, MIN + 1, -4, -3, -2}) {
            Edges.dueUnchanged("to " + v, Edges.whole(3, 1), (x, w) -> x.move(0, 0, 0, w), v, BAD);
        }
    }

    static void promise04AllNumbersWrong() {
        Edges.allWrong((x, v) -> x.move(v, v, v, v));
    }

    static void promise04WhatItWas() {
        WordBench x = new WordBench();
        x.machine(12, 4);
        Edges.due("missing at first", x.move(0, 11, 3, 11), NONE);
        Edges.due("the last state", x.move(0, 11, 3, 0), 11);
        Edges.due("state 0", x.move(0, 11, 3, 0), 0);
        Edges.due("the same again", x.move(0, 11, 3, NONE), 0);
        Edges.due("missing", x.move(0, 11, 3, NONE), NONE);
        Edges.due("missing again", x.move(0, 11, 3, 5), NONE);
    }

    static void promise04JustThatMove() {
        for (int state = 0; state < 12; state++) {
            for (int l = 0; l < 4; l++) {
                WordBench x = new WordBench();
                x.machine(12, 4);
                x.machine(12, 4);
                x.move(0, state, l, 7);
                for (int i = 0; i < 48; i++) {
                    Edges.due("move " + i, x.moveOf(0, i / 4, i % 4), i == state * 4 + l ? 7 : NONE);
                    Edges.due("of another machine " + i, x.moveOf(1, i / 4, i % 4), NONE);
                }
            }
        }
    }

    static void promise04RefusedLeavesTheMove() {
        WordBench x = Edges.whole(3, 2);
        x.move(0, 1, 1, 2);
        x.move(0, 1, 1, 3);
        x.move(0, 1, 1, -2);
        Edges.due("stays", x.moveOf(0, 1, 1), 2);
    }

    // ---- 5: light

    static void promise05MachinesThatAreThere() {
        Edges.machines((x, v) -> x.light(v, 2, 3));
    }

    static void promise05StatesThatAreThere() {
        Edges.states((x, v) -> x.light(0, v, 1));
    }

    static void promise05Lights0To3() {
        Edges.range(() -> Edges.whole(12, 1), (x, v) -> x.light(0, 11, v), 0, 3);
    }

    static void promise05AllNumbersWrong() {
        Edges.allWrong((x, v) -> x.light(v, v, v));
    }

    static void promise05NoughtAtFirst() {
        WordBench x = new WordBench();
        x.machine(12, 1);
        for (int state = 0; state < 12; state++) {
            Edges.due("light of " + state, x.light(0, state, 3), 0);
        }
    }

    static void promise05WhatItWas() {
        WordBench x = Edges.whole(2, 1);
        Edges.due("was 0", x.light(0, 1, 3), 0);
        Edges.due("was 3", x.light(0, 1, 3), 3);
        Edges.due("was 3 still", x.light(0, 1, 0), 3);
        Edges.due("was 0 again", x.light(0, 1, 1), 0);
    }

    static void promise05RefusedLeavesTheLight() {
        WordBench x = Edges.whole(2, 1);
        x.light(0, 0, 2);
        x.light(0, 0, 4);
        x.light(0, 0, -1);
        Edges.due("stays", x.light(0, 0, 0), 2);
    }

    static void promise05JustThatState() {
        WordBench x = new WordBench();
        x.machine(12, 1);
        x.machine(12, 1);
        for (int state = 0; state < 12; state++) {
            x.light(0, state, state % 4);
        }
        for (int state = 0; state < 12; state++) {
            Edges.due("its own", x.light(0, state, 0), state % 4);
            Edges.due("none of another machine", x.light(1, state, 0), 0);
        }
    }

    // ---- 6: price

    static void promise06MachinesThatAreThere() {
        Edges.machines((x, v) -> x.price(v, 1, 20));
    }

    static void promise06LettersThatAreThere() {
        Edges.letters((x, v) -> x.price(0, v, 2));
    }

    static void promise06Prices1To20() {
        Edges.range(() -> Edges.whole(1, 4), (x, v) -> x.price(0, 3, v), 1, 20);
    }

    static void promise06AllNumbersWrong() {
        Edges.allWrong((x, v) -> x.price(v, v, v));
    }

    static void promise06OneAtFirst() {
        for (int k = 1; k <= 4; k++) {
            WordBench x = Edges.whole(1, k);
            for (int l = 0; l < k; l++) {
                Edges.due("price of " + l, x.price(0, l, 20), 1);
            }
        }
    }

    static void promise06WhatItWas() {
        WordBench x = Edges.whole(1, 1);
        Edges.due("was 1", x.price(0, 0, 20), 1);
        Edges.due("was 20", x.price(0, 0, 20), 20);
        Edges.due("was 20 still", x.price(0, 0, 1), 20);
        Edges.due("was 1 again", x.price(0, 0, 19), 1);
    }

    static void promise06RefusedLeavesThePrice() {
        WordBench x = Edges.whole(1, 1);
        x.price(0, 0, 7);
        x.price(0, 0, 0);
        x.price(0, 0, 21);
        Edges.due("stays", x.price(0, 0, 1), 7);
    }

    static void promise06OfEachMachine() {
        WordBench x = new WordBench();
        x.machine(1, 4);
        x.machine(1, 4);
        for (int l = 0; l < 4; l++) {
            x.price(0, l, 10 + l);
        }
        for (int l = 0; l < 4; l++) {
            Edges.due("its own", x.price(0, l, 1), 10 + l);
            Edges.due("none of another machine", x.price(1, l, 1), 1);
        }
    }

    // ---- 7: share

    static void promise07MachinesThatAreThere() {
        Edges.machines((x, v) -> x.share(v, 1, 5));
    }

    static void promise07LettersThatAreThere() {
        Edges.letters((x, v) -> x.share(0, v, 2));
    }

    static void promise07Shares0To5() {
        Edges.range(() -> Edges.whole(1, 4), (x, v) -> x.share(0, 3, v), 0, 5);
    }

    static void promise07AllNumbersWrong() {
        Edges.allWrong((x, v) -> x.share(v, v, v));
    }

    static void promise07OneAtFirst() {
        for (int k = 1; k <= 4; k++) {
            WordBench x = Edges.whole(1, k);
            for (int l = 0; l < k; l++) {
                Edges.due("share of " + l, x.share(0, l, 0), 1);
            }
        }
    }

    static void promise07WhatTheyWere() {
        WordBench x = Edges.whole(1, 1);
        Edges.due("were 1", x.share(0, 0, 5), 1);
        Edges.due("were 5", x.share(0, 0, 0), 5);
        Edges.due("were 0", x.share(0, 0, 0), 0);
        Edges.due("were 0 still", x.share(0, 0, 1), 0);
    }

    static void promise07RefusedLeavesTheShares() {
        WordBench x = Edges.whole(1, 1);
        x.share(0, 0, 4);
        x.share(0, 0, -1);
        x.share(0, 0, 6);
        Edges.due("stay", x.share(0, 0, 1), 4);
    }

    static void promise07OfEachMachine() {
        WordBench x = new WordBench();
        x.machine(1, 4);
        x.machine(1, 4);
        for (int l = 0; l < 4; l++) {
            x.share(0, l, 5 - l);
        }
        for (int l = 0; l < 4; l++) {
            Edges.due("their own", x.share(0, l, 1), 5 - l);
            Edges.due("none of another machine", x.share(1, l, 1), 1);
        }
    }

    static void promise07PricesAreNoShares() {
        WordBench x = Edges.whole(1, 1);
        x.price(0, 0, 9);
        Edges.due("share", x.share(0, 0, 3), 1);
        Edges.due("price", x.price(0, 0, 1), 9);
    }

    // ---- 8: about

    static void promise08MachinesThatAreThere() {
        for (int what = 0; what <= 2; what++) {
            int told = what;
            Edges.machines((x, v) -> x.about(v, told));
        }
    }

    static void promise08What0To2() {
        Edges.range(() -> Edges.whole(12, 4), (x, v) -> x.about(0, v), 0, 2);
    }

    static void promise08AllNumbersWrong() {
        Edges.allWrong((x, v) -> x.about(v, v));
    }

    static void promise08OfThatMachine() {
        WordBench x = full();
        for (int i = 0; i < 6; i++) {
            Edges.due("states of " + i, x.about(i, 0), 1 + i);
            Edges.due("letters of " + i, x.about(i, 1), 1 + i % 4);
        }
    }

    static void promise08WholeWithAllMoves() {
        for (int n = 1; n <= 12; n++) {
            for (int k = 1; k <= 4; k++) {
                Edges.due(n + " " + k, Edges.whole(n, k).about(0, 2), 1);
            }
        }
    }

    static void promise08NotWholeWithOneMissing() {
        for (int i = 0; i < 48; i++) {
            WordBench x = Edges.whole(12, 4);
            x.move(0, i / 4, i % 4, NONE);
            Edges.due("without move " + i, x.about(0, 2), 0);
            x.move(0, i / 4, i % 4, 0);
            Edges.due("with it again", x.about(0, 2), 1);
        }
    }

    static void promise08NotWholeWithNoMoves() {
        WordBench x = new WordBench();
        x.machine(1, 1);
        Edges.due("the least one", x.about(0, 2), 0);
        x.move(0, 0, 0, 0);
        Edges.due("the least one with its move", x.about(0, 2), 1);
    }

    static void promise08WholeOfEachMachine() {
        WordBench x = Edges.whole(2, 1);
        x.machine(2, 1);
        Edges.due("one is", x.about(0, 2), 1);
        Edges.due("one is not", x.about(1, 2), 0);
    }

    // ---- 9: moveOf

    static void promise09MachinesThatAreThere() {
        Edges.machines((x, v) -> x.moveOf(v, 2, 1));
    }

    static void promise09StatesThatAreThere() {
        Edges.states((x, v) -> x.moveOf(0, v, 1));
    }

    static void promise09LettersThatAreThere() {
        Edges.letters((x, v) -> x.moveOf(0, 1, v));
    }

    static void promise09AllNumbersWrong() {
        Edges.allWrong((x, v) -> x.moveOf(v, v, v));
    }

    static void promise09OfThatMachine() {
        WordBench x = Edges.sixRings();
        for (int i = 0; i < 6; i++) {
            Edges.due("the last state of " + i, x.moveOf(i, 1 + i, 0), 0);
            Edges.due("the one ahead of it", x.moveOf(i, i, 0), 1 + i);
        }
    }

    static void promise09NoneForAMissingMove() {
        WordBench x = Edges.whole(2, 2);
        x.move(0, 1, 0, NONE);
        Edges.due("missing", x.moveOf(0, 1, 0), NONE);
        Edges.due("by another letter", x.moveOf(0, 1, 1), 0);
        Edges.due("of another state", x.moveOf(0, 0, 0), 1);
    }

    static void promise09EachStateThatAMoveLeadsTo() {
        WordBench x = new WordBench();
        x.machine(12, 1);
        for (int to = 0; to < 12; to++) {
            x.move(0, 3, 0, to);
            Edges.due("to " + to, x.moveOf(0, 3, 0), to);
        }
    }

    static void promise09ChangesNothing() {
        Edges.dueUnchanged("a move", Edges.whole(3, 2), (x, v) -> x.moveOf(0, v, 0), 2, 0);
    }
}
