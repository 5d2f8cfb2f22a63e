/** The boundary cases of promises 1 to 4 (a new object, addKind, addStep, put), sentence by sentence. */
public final class KindsBoundaryTest {
    private static final int[] FAR = {Integer.MIN_VALUE, Integer.MIN_VALUE + 1, -256, 256, Integer.MAX_VALUE - 1,
        Integer.MAX_VALUE};

    public static void main(String[] args) {
        newObjectIsEmpty();
        newObjectsShareNothing();
        addKindNumbers();
        addKindLetters();
        addKindLettersOnce();
        addKindSix();
        addKindOtherNodes();
        addStepNumbers();
        addStepNoKind();
        addStepWidths();
        addStepEight();
        addStepOtherNodes();
        putAnswers();
        putNone();
        putNoSquare();
        putNoKind();
        putNoSide();
        putOtherNodes();
        Due.end();
    }

    private static void newObjectIsEmpty() {
        Due.sentence("Creates an empty board without kinds, and an empty tape.");
        BoardNotation x = new BoardNotation();
        for (int square = 0; square < 64; square++) {
            Due.is("at(" + square + ")", x.at(square), -1);
        }
        int[] due = {0, 0, 0, 0, 1, 0, 0};
        for (int what = 0; what < due.length; what++) {
            Due.is("state(" + what + ")", x.state(what), due[what]);
        }
        Due.isThrown("put() of kind 0", Due.INDEX, () -> x.put(0, 0, 0));
        Due.isThrown("byteAt(0)", Due.INDEX, () -> x.byteAt(0));
        Due.is("put() of none", x.put(0, -1, 0), -1);
        Due.is("reason(0, 63)", x.reason(0, 63), 1);
        Due.is("read()", x.read(), 1);
        Due.is("readGame()", x.readGame(), 0);
        Due.is("empty()", x.empty(), 0);
        Due.is("clear()", x.clear(), 1);
    }

    private static void newObjectsShareNothing() {
        Due.sentence("Creates an empty board without kinds, and an empty tape.");
        BoardNotation x = Boards.line(3);
        x.writeGame();
        BoardNotation y = new BoardNotation();
        int[] due = {0, 0, 0, 0, 1, 0, 0};
        for (int what = 0; what < due.length; what++) {
            Due.is("state(" + what + ") beside another object", y.state(what), due[what]);
        }
        y.addKind('R');
        y.addStep(0, 1, 0, 1);
        y.put(0, 0, 1);
        y.feed(1, -1, -1, -1);
        Due.is("at(0) of the other object", x.at(0), 0);
        Due.is("the kinds of the other object", x.state(5), 1);
        Due.is("the tape of the other object", x.state(6), 11);
        Due.is("its moves", x.state(2), 7);
    }

    private static void addKindNumbers() {
        Due.sentence("Returns its number.");
        BoardNotation x = new BoardNotation();
        for (int kind = 0; kind < 6; kind++) {
            Due.is("addKind() number " + kind, x.addKind('Z' - kind), kind);
        }
    }

    private static void addKindLetters() {
        Due.sentence("Throws `IllegalArgumentException` if letter is not 65 to 90");
        BoardNotation x = new BoardNotation();
        Due.isRefused("addKind(64)", Due.ARGUMENT, x, () -> x.addKind(64));
        Due.is("addKind(65)", x.addKind(65), 0);
        Due.is("addKind(66)", x.addKind(66), 1);
        Due.is("addKind(89)", x.addKind(89), 2);
        Due.is("addKind(90)", x.addKind(90), 3);
        Due.isRefused("addKind(91)", Due.ARGUMENT, x, () -> x.addKind(91));
        for (int letter : new int[] {-1, 0, 67 - 256, 67 + 256, 97, 122}) {
            Due.isRefused("addKind(" + letter + ")", Due.ARGUMENT, x, () -> x.addKind(letter));
        }
        for (int letter : FAR) {
            Due.isRefused("addKind(" + letter + ")", Due.ARGUMENT, x, () -> x.addKind(letter));
        }
        Due.is("the kinds", x.state(5), 4);
        for (int letter = 65; letter <= 90; letter++) {
            Due.is("addKind(" + letter + ") of a new object", new BoardNotation().addKind(letter), 0);
        }
    }

    private static void addKindLettersOnce() {
        Due.sentence("Throws `IllegalArgumentException` if letter is not 65 to 90, or a kind has it");
        BoardNotation x = new BoardNotation();
        for (int kind = 0; kind < 6; kind++) {
            int letter = 70 + 3 * kind;
            Due.is("addKind(" + letter + ")", x.addKind(letter), kind);
            for (int k = 0; k <= kind; k++) {
                int old = 70 + 3 * k;
                Due.isRefused("addKind(" + old + ") again", Due.ARGUMENT, x, () -> x.addKind(old));
            }
        }
    }

    private static void addKindSix() {
        Due.sentence("Throws `IllegalStateException` if there are 6 kinds");
        BoardNotation x = new BoardNotation();
        for (int kind = 0; kind < 5; kind++) {
            x.addKind('A' + kind);
        }
        Due.is("addKind() with 5 kinds", x.addKind('F'), 5);
        Due.isRefused("addKind() with 6 kinds", Due.STATE, x, () -> x.addKind('G'));
        Due.isRefused("addKind() with 6 kinds again", Due.STATE, x, () -> x.addKind('G'));
        x.clear();
        Due.isRefused("addKind() with 6 kinds behind clear()", Due.STATE, x, () -> x.addKind('G'));
    }

    private static void addKindOtherNodes() {
        Due.sentence("Throws `IllegalStateException` if there are 6 kinds, or other nodes than node 0");
        BoardNotation x = Boards.columns();
        Due.is("addKind() with node 0 alone", x.addKind('A'), 1);
        x.play(0, 8);
        Due.isRefused("addKind() at node 1", Due.STATE, x, () -> x.addKind('B'));
        x.goTo(0);
        Due.isRefused("addKind() at node 0 of two nodes", Due.STATE, x, () -> x.addKind('B'));
        x.clear();
        Due.is("addKind() behind clear()", x.addKind('B'), 2);
        Due.readGame(x, "Ra2");
        Due.isRefused("addKind() behind readGame()", Due.STATE, x, () -> x.addKind('C'));
        Due.readGame(x, "?");
        Due.is("addKind() behind a readGame() without a move", x.addKind('C'), 3);
    }

    private static void addStepNumbers() {
        Due.sentence("Returns the number of steps of the kind.");
        BoardNotation x = new BoardNotation();
        x.addKind('A');
        x.addKind('B');
        for (int steps = 1; steps <= 8; steps++) {
            Due.is("step " + steps + " of kind 1", x.addStep(1, 1, 0, 1), steps);
        }
        Due.is("step 1 of kind 0", x.addStep(0, 1, 0, 1), 1);
        x.addKind('C');
        Due.is("step 1 of kind 2", x.addStep(2, 1, 0, 1), 1);
        Due.is("step 2 of kind 0", x.addStep(0, 0, 1, 1), 2);
    }

    private static void addStepNoKind() {
        Due.sentence("Throws `IndexOutOfBoundsException` if there is no such kind");
        BoardNotation x = new BoardNotation();
        Due.isRefused("addStep(0, ..) without kinds", Due.INDEX, x, () -> x.addStep(0, 1, 0, 1));
        for (int kinds = 1; kinds <= 6; kinds++) {
            x.addKind('A' + kinds);
            int none = kinds;
            Due.isRefused("addStep(-1, ..)", Due.INDEX, x, () -> x.addStep(-1, 1, 0, 1));
            Due.is("addStep(0, ..)", x.addStep(0, 1, 0, 1), kinds);
            Due.isRefused("addStep(" + none + ", ..)", Due.INDEX, x, () -> x.addStep(none, 1, 0, 1));
        }
        Due.is("addStep(5, ..) of 6 kinds", x.addStep(5, 1, 0, 1), 1);
        for (int kind : FAR) {
            Due.isRefused("addStep(" + kind + ", ..)", Due.INDEX, x, () -> x.addStep(kind, 1, 0, 1));
        }
    }

    private static void addStepWidths() {
        Due.sentence("Throws `IllegalArgumentException` if dx or dy is not -3 to 3, both are 0, or reach is not 1 to 7");
        BoardNotation x = new BoardNotation();
        x.addKind('A');
        x.put(27, 0, 0);
        int[][] wrong = {{-4, 1, 1}, {4, 1, 1}, {1, -4, 1}, {1, 4, 1}, {-4, 0, 1}, {0, 4, 1}, {4, 4, 1}, {0, 0, 1},
            {0, 0, 7}, {1, 1, 0}, {1, 1, 8}, {1, 1, -1}, {3, 3, 0}, {-3, -3, 8}};
        for (int[] w : wrong) {
            Due.isRefused("addStep(0, " + w[0] + ", " + w[1] + ", " + w[2] + ")", Due.ARGUMENT, x,
                    () -> x.addStep(0, w[0], w[1], w[2]));
        }
        BoardNotation z = new BoardNotation();
        z.addKind('A');
        for (int far : FAR) {
            Due.isRefused("addStep(0, " + far + ", 1, 1)", Due.ARGUMENT, z, () -> z.addStep(0, far, 1, 1));
            Due.isRefused("addStep(0, 1, " + far + ", 1)", Due.ARGUMENT, z, () -> z.addStep(0, 1, far, 1));
            Due.isRefused("addStep(0, 1, 1, " + far + ")", Due.ARGUMENT, z, () -> z.addStep(0, 1, 1, far));
        }
        int[][] right = {{-3, 3, 1}, {3, -3, 7}, {0, 1, 2}, {0, -1, 6}, {1, 0, 3}, {-1, 0, 1}, {3, 3, 7}, {-3, -3, 1}};
        for (int k = 0; k < right.length; k++) {
            Due.is("addStep(0, " + right[k][0] + ", " + right[k][1] + ", " + right[k][2] + ")",
                    x.addStep(0, right[k][0], right[k][1], right[k][2]), k + 1);
        }
    }

    private static void addStepEight() {
        Due.sentence("Throws `IllegalStateException` if the kind has 8 steps");
        BoardNotation x = new BoardNotation();
        x.addKind('A');
        x.addKind('B');
        x.put(8, 0, 0);
        x.put(16, 1, 0);
        for (int step = 1; step <= 7; step++) {
            x.addStep(0, 1, 0, 1);
        }
        Due.is("the eighth step", x.addStep(0, 1, 1, 1), 8);
        Due.is("the moves of eight steps", x.state(2), 2);
        Due.isRefused("the ninth step", Due.STATE, x, () -> x.addStep(0, 1, -1, 1));
        Due.is("the moves of eight steps stay", x.state(2), 2);
        Due.is("the first step of the next kind", x.addStep(1, 1, -1, 1), 1);
        Due.is("and its move", x.reason(16, 9), 0);
        Due.is("the moves of both", x.state(2), 3);
        Due.isRefused("the ninth step, still", Due.STATE, x, () -> x.addStep(0, 1, -1, 1));
        for (int step = 2; step <= 8; step++) {
            x.addStep(1, 1, -1, 1);
        }
        Due.isRefused("the ninth step of the next kind", Due.STATE, x, () -> x.addStep(1, 1, 0, 1));
    }

    private static void addStepOtherNodes() {
        Due.sentence("Throws `IllegalStateException` if the kind has 8 steps, or there are other nodes than node 0");
        BoardNotation x = Boards.columns();
        Due.is("addStep() with node 0 alone", x.addStep(0, 2, 0, 1), 3);
        x.play(0, 8);
        Due.isRefused("addStep() at node 1", Due.STATE, x, () -> x.addStep(0, 1, 0, 1));
        x.goTo(0);
        Due.isRefused("addStep() at node 0 of two nodes", Due.STATE, x, () -> x.addStep(0, 1, 0, 1));
        x.clear();
        Due.is("no step came about", x.reason(0, 1), 2);
        Due.is("addStep() behind clear()", x.addStep(0, 1, 0, 1), 4);
        Due.is("the step stands", x.reason(0, 1), 0);
    }

    private static void putAnswers() {
        Due.sentence("Returns what was there: 2 * kind + side; -1 if it was empty.");
        BoardNotation x = new BoardNotation();
        for (int kind = 0; kind < 6; kind++) {
            x.addKind('A' + kind);
        }
        int before = -1;
        for (int kind = 0; kind < 6; kind++) {
            for (int side = 0; side <= 1; side++) {
                Due.is("put(63, " + kind + ", " + side + ")", x.put(63, kind, side), before);
                before = 2 * kind + side;
                Due.is("at(63)", x.at(63), before);
            }
        }
        Due.is("put() of none", x.put(63, -1, 0), 11);
        Due.is("put() of none on an empty square", x.put(63, -1, 0), -1);
        Due.is("put() on the empty square", x.put(63, 5, 1), -1);
    }

    private static void putNone() {
        Due.sentence("`side`: the side, 0 or 1 (it does not matter which one for none)");
        for (int side = 0; side <= 1; side++) {
            BoardNotation x = Boards.columns();
            Due.is("put(0, -1, " + side + ")", x.put(0, -1, side), 0);
            Due.is("at(0)", x.at(0), -1);
            Due.is("put(63, -1, " + side + ")", x.put(63, -1, side), 1);
            Due.is("at(63)", x.at(63), -1);
            Due.is("the moves", x.state(2), 0);
        }
    }

    private static void putNoSquare() {
        Due.sentence("Throws `IndexOutOfBoundsException` if there is no such square");
        BoardNotation x = Boards.columns();
        Due.isRefused("put(-1, 0, 0)", Due.INDEX, x, () -> x.put(-1, 0, 0));
        Due.is("put(0, 0, 1)", x.put(0, 0, 1), 0);
        Due.is("put(1, 0, 1)", x.put(1, 0, 1), -1);
        Due.is("put(62, 0, 1)", x.put(62, 0, 1), -1);
        Due.is("put(63, 0, 0)", x.put(63, 0, 0), 1);
        Due.isRefused("put(64, 0, 0)", Due.INDEX, x, () -> x.put(64, 0, 0));
        for (int square : new int[] {-1, 64, 128}) {
            Due.isRefused("put(" + square + ", -1, 0)", Due.INDEX, x, () -> x.put(square, -1, 0));
        }
        for (int square : FAR) {
            Due.isRefused("put(" + square + ", 0, 0)", Due.INDEX, x, () -> x.put(square, 0, 0));
        }
    }

    private static void putNoKind() {
        Due.sentence("or kind is not -1, and no kind");
        BoardNotation x = new BoardNotation();
        Due.isRefused("put(5, -2, 0) without kinds", Due.INDEX, x, () -> x.put(5, -2, 0));
        Due.is("put(5, -1, 0) without kinds", x.put(5, -1, 0), -1);
        Due.isRefused("put(5, 0, 0) without kinds", Due.INDEX, x, () -> x.put(5, 0, 0));
        for (int kinds = 1; kinds <= 6; kinds++) {
            int none = kinds;
            x.addKind('A' + kinds);
            Due.is("put(5, " + (kinds - 1) + ", 0)", x.put(5, kinds - 1, 0), kinds == 1 ? -1 : 2 * kinds - 4);
            Due.isRefused("put(5, " + none + ", 0)", Due.INDEX, x, () -> x.put(5, none, 0));
            Due.isRefused("put(5, -2, 0)", Due.INDEX, x, () -> x.put(5, -2, 0));
        }
        for (int kind : FAR) {
            Due.isRefused("put(5, " + kind + ", 0)", Due.INDEX, x, () -> x.put(5, kind, 0));
        }
    }

    private static void putNoSide() {
        Due.sentence("Throws `IllegalArgumentException` if side is not 0 or 1");
        BoardNotation x = Boards.columns();
        for (int kind = -1; kind <= 0; kind++) {
            int there = kind;
            Due.isRefused("put(5, " + kind + ", -1)", Due.ARGUMENT, x, () -> x.put(5, there, -1));
            Due.is("put(5, " + kind + ", 0)", x.put(5, there, 0), -1);
            Due.is("put(5, " + kind + ", 1)", x.put(5, there, 1), there == -1 ? -1 : 0);
            Due.isRefused("put(5, " + kind + ", 2)", Due.ARGUMENT, x, () -> x.put(5, there, 2));
            for (int side : FAR) {
                Due.isRefused("put(5, " + kind + ", " + side + ")", Due.ARGUMENT, x, () -> x.put(5, there, side));
            }
        }
    }

    private static void putOtherNodes() {
        Due.sentence("Throws `IllegalStateException` if there are other nodes than node 0");
        BoardNotation x = Boards.columns();
        Due.is("put() with node 0 alone", x.put(4, 0, 0), -1);
        x.play(0, 8);
        Due.isRefused("put() at node 1", Due.STATE, x, () -> x.put(5, 0, 0));
        Due.isRefused("put() of none at node 1", Due.STATE, x, () -> x.put(4, -1, 0));
        x.goTo(0);
        Due.isRefused("put() at node 0 of two nodes", Due.STATE, x, () -> x.put(5, 0, 0));
        Due.isRefused("put() of none at node 0 of two nodes", Due.STATE, x, () -> x.put(4, -1, 0));
        x.clear();
        Due.is("put() behind clear()", x.put(4, -1, 0), 0);
        Due.readGame(x, "Ra2");
        Due.isRefused("put() behind readGame()", Due.STATE, x, () -> x.put(5, 0, 0));
        Due.readGame(x, "Ra");
        Due.is("put() behind a readGame() without a move", x.put(5, 0, 0), -1);
    }
}
