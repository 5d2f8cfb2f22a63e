/** The boundary cases of promises 5 to 8 (at, state, reason, play), sentence by sentence. */
public final class PositionBoundaryTest {
    private static final int[] FAR = {Integer.MIN_VALUE, -64, 128, Integer.MAX_VALUE};

    public static void main(String[] args) {
        atAnswers();
        atNoSquare();
        stateOfTheSide();
        stateOfCheck();
        stateOfMoves();
        stateOfMovesToldApart();
        stateOfNodes();
        stateOfKinds();
        stateOfTheTape();
        stateNoWhat();
        reasonNoPiece();
        reasonNotReached();
        reasonNotLegal();
        reasonIsTheFirst();
        reasonNoSquare();
        playAnswers();
        playNoSquare();
        playWithReason();
        playOfTwoHundredNodes();
        playOfOldNodesAtTheLimit();
        Due.end();
    }

    private static void atAnswers() {
        Due.sentence("Returns what is there: 2 * kind + side; -1 if it is empty.");
        BoardNotation x = new BoardNotation();
        for (int kind = 0; kind < 6; kind++) {
            x.addKind('A' + kind);
            x.put(kind, kind, 0);
            x.put(63 - kind, kind, 1);
        }
        for (int kind = 0; kind < 6; kind++) {
            Due.is("at() of kind " + kind + " and side 0", x.at(kind), 2 * kind);
            Due.is("at() of kind " + kind + " and side 1", x.at(63 - kind), 2 * kind + 1);
        }
        Due.is("at() beside them", x.at(6), -1);
        Due.is("at() beside them", x.at(57), -1);
    }

    private static void atNoSquare() {
        Due.sentence("Throws `IndexOutOfBoundsException` if there is no such square");
        BoardNotation x = Boards.columns();
        Due.isRefused("at(-1)", Due.INDEX, x, () -> x.at(-1));
        Due.is("at(0)", x.at(0), 0);
        Due.is("at(1)", x.at(1), -1);
        Due.is("at(62)", x.at(62), -1);
        Due.is("at(63)", x.at(63), 1);
        Due.isRefused("at(64)", Due.INDEX, x, () -> x.at(64));
        for (int square : FAR) {
            Due.isRefused("at(" + square + ")", Due.INDEX, x, () -> x.at(square));
        }
    }

    private static void stateOfTheSide() {
        Due.sentence("0 the side whose turn it is");
        BoardNotation x = Boards.columns();
        for (int node = 1; node <= 4; node++) {
            Due.is("state(0) at node " + (node - 1), x.state(0), (node - 1) % 2);
            Boards.shuttle(x, node);
        }
        for (int node = 4; node >= 0; node--) {
            x.goTo(node);
            Due.is("state(0) back at node " + node, x.state(0), node % 2);
        }
    }

    private static void stateOfCheck() {
        Due.sentence("1 1 if it is in check, else 0");
        BoardNotation x = Due.chess();
        Due.put(x, "a1", 0, 0);
        Due.put(x, "b8", 1, 1);
        Due.put(x, "h8", 0, 1);
        Due.put(x, "g2", 1, 0);
        Due.is("not in check", x.state(1), 0);
        Due.play(x, "g2", "g3");
        Due.is("side 1 not in check", x.state(1), 0);
        Due.play(x, "b8", "a8");
        Due.is("side 0 in check", x.state(1), 1);
        Due.play(x, "a1", "b2");
        Due.is("side 1 not in check", x.state(1), 0);
        x.goTo(0);
        Due.play(x, "g2", "h2");
        Due.is("side 1 in check", x.state(1), 1);
        x.goTo(0);
        Due.is("back at node 0", x.state(1), 0);
    }

    private static void stateOfMoves() {
        Due.sentence("2 the number of its legal moves");
        Due.is("an empty board", new BoardNotation().state(2), 0);
        BoardNotation x = new BoardNotation();
        x.addKind('R');
        x.put(0, 0, 0);
        Due.is("a piece without steps", x.state(2), 0);
        x.addStep(0, -1, 0, 7);
        Due.is("a piece at the edge to which it goes", x.state(2), 0);
        x.addStep(0, 1, 0, 1);
        Due.is("one move", x.state(2), 1);
        x.put(1, 0, 0);
        Due.is("another one, which stands in its way", x.state(2), 1);
        BoardNotation y = Due.chess();
        Due.put(y, "h8", 0, 0);
        Due.put(y, "g1", 1, 1);
        Due.put(y, "a7", 1, 1);
        Due.is("no check, and all moves would be into it", y.state(1), 0);
        Due.is("none of them is legal", y.state(2), 0);
        Due.put(y, "a7", -1, 1);
        Due.is("one of them is legal", y.state(2), 1);
        Due.is("many", Boards.crowd().state(2), Boards.CROWD_MOVES);
    }

    private static void stateOfMovesToldApart() {
        Due.sentence("2 the number of its legal moves (told apart by their two squares)");
        BoardNotation x = new BoardNotation();
        x.addKind('R');
        x.put(0, 0, 0);
        x.addStep(0, 1, 0, 4);
        Due.is("a step", x.state(2), 4);
        x.addStep(0, 2, 0, 3);
        Due.is("another step, two of whose squares are the same", x.state(2), 5);
        x.addStep(0, 1, 0, 4);
        Due.is("the first step again", x.state(2), 5);
        x.put(2, 0, 1);
        Due.is("both capture the same piece", x.state(2), 2);
        x.put(7, 0, 0);
        Due.is("another piece from another square", x.state(2), 2);
        x.put(8, 0, 0);
        Due.is("another piece with moves of its own", x.state(2), 7);
        BoardNotation y = Boards.columns();
        y.addStep(0, 1, 0, 1);
        y.addStep(0, -1, 0, 1);
        Due.is("one piece", y.state(2), 8);
        y.put(2, 0, 0);
        Due.is("two pieces, which share a target", y.state(2), 17);
    }

    private static void stateOfNodes() {
        Due.sentence("3 the present node, 4 the number of nodes");
        BoardNotation x = Boards.columns();
        Due.is("state(3) at first", x.state(3), 0);
        Due.is("state(4) at first", x.state(4), 1);
        for (int node = 1; node <= 199; node++) {
            Boards.shuttle(x, node);
        }
        Due.is("state(3) at the last node", x.state(3), 199);
        Due.is("state(4) with all nodes", x.state(4), 200);
        x.goTo(198);
        Due.is("state(3) at the last node but one", x.state(3), 198);
        Due.is("state(4) stays", x.state(4), 200);
        x.goTo(0);
        Due.is("state(3) at node 0", x.state(3), 0);
        x.clear();
        Due.is("state(4) behind clear()", x.state(4), 1);
    }

    private static void stateOfKinds() {
        Due.sentence("5 the number of kinds");
        BoardNotation x = new BoardNotation();
        for (int kind = 0; kind < 6; kind++) {
            Due.is("state(5)", x.state(5), kind);
            x.addKind('A' + kind);
        }
        Due.is("state(5)", x.state(5), 6);
    }

    private static void stateOfTheTape() {
        Due.sentence("6 the bytes of the tape");
        BoardNotation x = new BoardNotation();
        Due.is("state(6) at first", x.state(6), 0);
        x.feed(0, -1, -1, -1);
        Due.is("state(6) behind one byte", x.state(6), 1);
        Due.feed(x, "?".repeat(1999));
        Due.is("state(6) of a full tape", x.state(6), 2000);
        x.empty();
        Due.is("state(6) behind empty()", x.state(6), 0);
    }

    private static void stateNoWhat() {
        Due.sentence("Throws `IndexOutOfBoundsException` if what is not 0 to 6");
        BoardNotation x = Boards.line(2);
        Due.isRefused("state(-1)", Due.INDEX, x, () -> x.state(-1));
        int[] due = {0, 0, 7, 2, 3, 1, 0};
        for (int what = 0; what <= 6; what++) {
            Due.is("state(" + what + ")", x.state(what), due[what]);
        }
        Due.isRefused("state(7)", Due.INDEX, x, () -> x.state(7));
        for (int what : FAR) {
            Due.isRefused("state(" + what + ")", Due.INDEX, x, () -> x.state(what));
        }
    }

    private static void reasonNoPiece() {
        Due.sentence("1 no piece of the side whose turn it is");
        BoardNotation x = Boards.columns();
        Due.is("an empty square", x.reason(1, 9), 1);
        Due.is("an empty square, to itself", x.reason(1, 1), 1);
        Due.is("an empty square, to a piece", x.reason(1, 0), 1);
        Due.is("the other side", x.reason(63, 55), 1);
        Due.is("the side whose turn it is", x.reason(0, 8), 0);
        x.play(0, 8);
        Due.is("the square that it left", x.reason(0, 8), 1);
        Due.is("the side that moved", x.reason(8, 16), 1);
        Due.is("the side whose turn it is then", x.reason(63, 55), 0);
    }

    private static void reasonNotReached() {
        Due.sentence("2 it does not reach the square");
        BoardNotation x = Boards.columns();
        Due.is("the square on which it stands", x.reason(0, 0), 2);
        Due.is("a square beside its file", x.reason(0, 9), 2);
        Due.is("the end of its file", x.reason(0, 56), 0);
        Due.is("the square of the other side's piece, in another file", x.reason(0, 63), 2);
    }

    private static void reasonNotLegal() {
        Due.sentence("3 the move is not legal");
        BoardNotation x = Due.chess();
        Due.put(x, "a1", 0, 0);
        Due.put(x, "b8", 1, 1);
        Due.is("into the file that is reached", Due.reason(x, "a1", "b1"), 3);
        Due.is("beside it", Due.reason(x, "a1", "a2"), 0);
        Due.put(x, "b2", 3, 0);
        Due.is("behind a piece that stands between", Due.reason(x, "a1", "b1"), 0);
    }

    private static void reasonIsTheFirst() {
        Due.sentence("otherwise the first reason");
        BoardNotation x = Due.chess();
        Due.put(x, "a1", 0, 0);
        Due.put(x, "a2", 1, 0);
        Due.put(x, "a8", 1, 1);
        Due.is("2 ahead of 3: not reached, and it would open the file", Due.reason(x, "a2", "b3"), 2);
        Due.is("3: it opens the file", Due.reason(x, "a2", "b2"), 3);
        Due.is("1 ahead of 2: the other side, not reached", Due.reason(x, "a8", "b7"), 1);
        Due.is("1 ahead of 2: nothing there", Due.reason(x, "h1", "h1"), 1);
        Due.is("0", Due.reason(x, "a2", "a8"), 0);
    }

    private static void reasonNoSquare() {
        Due.sentence("Throws `IndexOutOfBoundsException` if there is no such square");
        BoardNotation x = Boards.columns();
        Due.isRefused("reason(-1, 0)", Due.INDEX, x, () -> x.reason(-1, 0));
        Due.isRefused("reason(0, -1)", Due.INDEX, x, () -> x.reason(0, -1));
        Due.is("reason(0, 0)", x.reason(0, 0), 2);
        Due.is("reason(63, 63)", x.reason(63, 63), 1);
        Due.is("reason(0, 63)", x.reason(0, 63), 2);
        Due.isRefused("reason(64, 0)", Due.INDEX, x, () -> x.reason(64, 0));
        Due.isRefused("reason(0, 64)", Due.INDEX, x, () -> x.reason(0, 64));
        Due.isRefused("reason(1, 64), from an empty square", Due.INDEX, x, () -> x.reason(1, 64));
        for (int square : FAR) {
            Due.isRefused("reason(" + square + ", 0)", Due.INDEX, x, () -> x.reason(square, 0));
            Due.isRefused("reason(0, " + square + ")", Due.INDEX, x, () -> x.reason(0, square));
        }
    }

    private static void playAnswers() {
        Due.sentence("Plays a move from the present node; its node is the present one then.");
        BoardNotation x = Boards.columns();
        Due.is("play()", x.play(0, 8), 1);
        Due.is("the present node", x.state(3), 1);
        Due.is("play() below it", x.play(63, 55), 2);
        Due.is("the present node", x.state(3), 2);
        Due.is("the node above it", x.node(2, 0), 1);
        x.goTo(0);
        Due.is("an old move", x.play(0, 8), 1);
        Due.is("the present node", x.state(3), 1);
        Due.is("the nodes", x.state(4), 3);
        x.goTo(0);
        Due.is("another move", x.play(0, 16), 3);
        Due.is("the present node", x.state(3), 3);
        Due.is("the same squares below another node", x.play(63, 55), 4);
        Due.is("the node above it", x.node(4, 0), 3);
    }

    private static void playNoSquare() {
        Due.sentence("Throws `IndexOutOfBoundsException` if there is no such square");
        BoardNotation x = Boards.columns();
        Due.isRefused("play(-1, 0)", Due.INDEX, x, () -> x.play(-1, 0));
        Due.isRefused("play(0, -1)", Due.INDEX, x, () -> x.play(0, -1));
        Due.isRefused("play(64, 0)", Due.INDEX, x, () -> x.play(64, 0));
        Due.isRefused("play(0, 64)", Due.INDEX, x, () -> x.play(0, 64));
        for (int square : FAR) {
            Due.isRefused("play(" + square + ", 0)", Due.INDEX, x, () -> x.play(square, 0));
            Due.isRefused("play(0, " + square + ")", Due.INDEX, x, () -> x.play(0, square));
        }
        BoardNotation y = new BoardNotation();
        y.addKind('A');
        y.addStep(0, -1, 0, 1);
        y.put(63, 0, 0);
        y.put(1, 0, 1);
        Due.is("play(63, 62)", y.play(63, 62), 1);
        Due.is("play(1, 0)", y.play(1, 0), 2);
        Due.is("at(0)", y.at(0), 1);
    }

    private static void playWithReason() {
        Due.sentence("Throws `IllegalStateException` if reason() is not 0");
        BoardNotation x = Due.chess();
        Due.put(x, "a1", 0, 0);
        Due.put(x, "b8", 1, 1);
        Due.isRefused("play() with reason 1, nothing there", Due.STATE, x, () -> Due.play(x, "h1", "h2"));
        Due.isRefused("play() with reason 1, the other side", Due.STATE, x, () -> Due.play(x, "b8", "b7"));
        Due.isRefused("play() with reason 2", Due.STATE, x, () -> Due.play(x, "a1", "a3"));
        Due.isRefused("play() with reason 3", Due.STATE, x, () -> Due.play(x, "a1", "b1"));
        Due.is("play() with reason 0", Due.play(x, "a1", "a2"), 1);
    }

    private static void playOfTwoHundredNodes() {
        Due.sentence("or there would be more than 200 nodes");
        BoardNotation x = Boards.line(198);
        Due.is("the nodes", x.state(4), 199);
        Due.is("play() of the node that makes them 200", Boards.shuttle(x, 199), 199);
        Due.is("the nodes", x.state(4), 200);
        Due.isRefused("play() of one more", Due.STATE, x, () -> Boards.shuttle(x, 200));
        x.goTo(0);
        Due.isRefused("play() of one more at node 0", Due.STATE, x, () -> x.play(0, 56));
        Due.is("reason() of it", x.reason(0, 56), 0);
        x.goTo(198);
        Due.isRefused("play() of one more beside the last", Due.STATE, x, () -> x.play(8, 16));
        Due.is("the continuations of node 198", x.node(198, 4), 1);
        x.clear();
        Due.is("play() behind clear()", x.play(0, 56), 1);
        BoardNotation y = Boards.broad();
        int[] more = Boards.longestMoves().get(199);
        Due.is("the nodes below node 0", y.node(0, 4), 199);
        Due.is("reason() of one more beside them", y.reason(more[0], more[1]), 0);
        Due.isRefused("play() of it", Due.STATE, y, () -> y.play(more[0], more[1]));
    }

    private static void playOfOldNodesAtTheLimit() {
        Due.sentence("makes a new node below it, if there is none with the same move");
        BoardNotation x = Boards.line(199);
        x.goTo(198);
        Due.is("the last node again", Boards.shuttle(x, 199), 199);
        x.goTo(0);
        Due.is("the first move again", Boards.shuttle(x, 1), 1);
        Due.is("the second move again", Boards.shuttle(x, 2), 2);
        Due.is("the nodes", x.state(4), 200);
        BoardNotation y = Boards.columns();
        y.play(0, 8);
        y.goTo(0);
        Due.is("another target", y.play(0, 16), 2);
        y.goTo(0);
        Due.is("the first move again", y.play(0, 8), 1);
        y.goTo(0);
        Due.is("the second one again", y.play(0, 16), 2);
        y.clear();
        y.put(1, 0, 0);
        y.addStep(0, 1, 1, 1);
        Due.is("a move to b2", y.play(0, 9), 1);
        y.goTo(0);
        Due.is("the same target from another square", y.play(1, 9), 2);
    }
}
