import java.util.List;

/**
 * The boundary cases of the term Games and of promises 15 to 18 and 21 to 23 (node, continuation, goTo,
 * promote, clear, branching, digest), sentence by sentence.
 */
public final class TreeBoundaryTest {
    private static final int[] FAR = {Integer.MIN_VALUE, -200, 400, Integer.MAX_VALUE};

    public static void main(String[] args) {
        nodeZeroIsTheFirstPosition();
        putAndAddedOnlyAtFirst();
        nodesInTheOrderMade();
        continuationsInTheOrderMade();
        nodeAnswers();
        nodeAnswersAtTheLimit();
        nodeNoNode();
        nodeNoWhat();
        continuationNoNode();
        continuationNoContinuation();
        continuationsAtTheLimit();
        goToAnswers();
        goToNoNode();
        promoteAnswers();
        promoteKeepsTheOthers();
        promoteAtTheLimit();
        promoteNoNode();
        clearAnswers();
        clearKeepsTheRest();
        branchingOfNone();
        branchingMeans();
        digestOfTheNewObject();
        digestOfAGame();
        digestOfAFullGame();
        digestOfBytes();
        Due.end();
    }

    /** Below node 0 the nodes 1 (a2), 2 (a3), 3 (a4); below 1 the nodes 4 (h7), 5 (h6). */
    private static BoardNotation fork() {
        BoardNotation x = Boards.columns();
        for (int rank = 1; rank <= 3; rank++) {
            x.play(0, 8 * rank);
            x.goTo(0);
        }
        x.goTo(1);
        x.play(63, 55);
        x.goTo(1);
        x.play(63, 47);
        x.goTo(0);
        return x;
    }

    private static void children(BoardNotation x, int node, int... due) {
        Due.is("node(" + node + ", 4)", x.node(node, 4), due.length);
        for (int index = 0; index < due.length; index++) {
            Due.is("continuation(" + node + ", " + index + ")", x.continuation(node, index), due[index]);
        }
    }

    private static void nodeZeroIsTheFirstPosition() {
        Due.sentence("node 0 is the first position, that of the pieces that were put");
        BoardNotation x = Boards.columns();
        x.addKind('B');
        x.put(8, 1, 1);
        x.play(0, 8);
        x.play(63, 7);
        x.goTo(0);
        Due.is("at(0)", x.at(0), 0);
        Due.is("at(7)", x.at(7), -1);
        Due.is("at(8)", x.at(8), 3);
        Due.is("at(63)", x.at(63), 1);
        x.clear();
        Due.is("put() of another first position", x.put(8, -1, 0), 3);
        x.play(0, 16);
        x.goTo(0);
        Due.is("at(8) of it", x.at(8), -1);
    }

    private static void putAndAddedOnlyAtFirst() {
        Due.sentence("Pieces can be put and kinds be added only as long as there is no other node.");
        BoardNotation x = Boards.columns();
        Due.is("addKind() without other nodes", x.addKind('B'), 1);
        Due.is("put() without other nodes", x.put(4, 1, 0), -1);
        x.play(0, 8);
        for (int node = 1; node >= 0; node--) {
            x.goTo(node);
            Due.isRefused("addKind() at node " + node + " of two", Due.STATE, x, () -> x.addKind('C'));
            Due.isRefused("put() at node " + node + " of two", Due.STATE, x, () -> x.put(5, 1, 0));
        }
        x.clear();
        Due.is("addKind() without other nodes again", x.addKind('C'), 2);
        Due.is("put() without other nodes again", x.put(5, 2, 0), -1);
    }

    private static void nodesInTheOrderMade() {
        Due.sentence("nodes are numbered in the order in which they were made");
        BoardNotation x = fork();
        Due.is("a node that is made below the last line", playFrom(x, 3, 63, 39), 6);
        Due.is("a node below node 0", playFrom(x, 0, 0, 32), 7);
        Due.is("an old one", playFrom(x, 1, 63, 47), 5);
        x.promote(7);
        Due.is("the next one, behind promote()", playFrom(x, 7, 63, 7), 8);
        Due.is("the nodes", x.state(4), 9);
        x.clear();
        Due.is("the first one behind clear()", x.play(0, 40), 1);
    }

    private static int playFrom(BoardNotation x, int node, int from, int to) {
        x.goTo(node);
        return x.play(from, to);
    }

    private static void continuationsInTheOrderMade() {
        Due.sentence("Those below a node are its continuations, in the order in which they were made; the first one is the"
                + " main one.");
        BoardNotation x = fork();
        children(x, 0, 1, 2, 3);
        children(x, 1, 4, 5);
        children(x, 2);
        playFrom(x, 0, 0, 8);
        playFrom(x, 0, 0, 16);
        children(x, 0, 1, 2, 3);
        playFrom(x, 0, 0, 56);
        children(x, 0, 1, 2, 3, 6);
        Due.is("the main one of node 0", x.continuation(0, 0), 1);
    }

    private static void nodeAnswers() {
        Due.sentence("0 the node above it, -1 for node 0, 1 the square from which its move came, 2 the square to which it"
                + " went (-1 for node 0), 3 how many moves lead to it, 4 how many continuations it has");
        BoardNotation x = fork();
        int[][] due = {{-1, -1, -1, 0, 3}, {0, 0, 8, 1, 2}, {0, 0, 16, 1, 0}, {0, 0, 24, 1, 0}, {1, 63, 55, 2, 0},
            {1, 63, 47, 2, 0}};
        for (int node = 0; node < due.length; node++) {
            for (int what = 0; what <= 4; what++) {
                Due.is("node(" + node + ", " + what + ")", x.node(node, what), due[node][what]);
            }
        }
        BoardNotation y = new BoardNotation();
        int[] dueAlone = {-1, -1, -1, 0, 0};
        for (int what = 0; what <= 4; what++) {
            Due.is("node(0, " + what + ") of a new object", y.node(0, what), dueAlone[what]);
        }
        y.addKind('A');
        y.addStep(0, -1, 0, 1);
        y.put(1, 0, 0);
        y.play(1, 0);
        Due.is("node(1, 0) below node 0", y.node(1, 0), 0);
        Due.is("node(1, 2) of a move to the square 0", y.node(1, 2), 0);
    }

    private static void nodeAnswersAtTheLimit() {
        Due.sentence("3 how many moves lead to it, 4 how many continuations it has");
        BoardNotation x = Boards.line(199);
        Due.is("node(199, 0)", x.node(199, 0), 198);
        Due.is("node(199, 3)", x.node(199, 3), 199);
        Due.is("node(199, 4)", x.node(199, 4), 0);
        Due.is("node(198, 3)", x.node(198, 3), 198);
        Due.is("node(198, 4)", x.node(198, 4), 1);
        BoardNotation y = Boards.broad();
        Due.is("node(0, 4)", y.node(0, 4), 199);
        Due.is("node(199, 3)", y.node(199, 3), 1);
        Due.is("node(199, 0)", y.node(199, 0), 0);
    }

    private static void nodeNoNode() {
        Due.sentence("Throws `IndexOutOfBoundsException` if there is no such node, or what is not 0 to 4");
        BoardNotation x = Boards.columns();
        Due.isRefused("node(-1, 0)", Due.INDEX, x, () -> x.node(-1, 0));
        Due.isRefused("node(1, 0) with node 0 alone", Due.INDEX, x, () -> x.node(1, 0));
        x.play(0, 8);
        Due.is("node(1, 0)", x.node(1, 0), 0);
        Due.isRefused("node(2, 0) with two nodes", Due.INDEX, x, () -> x.node(2, 0));
        for (int node : FAR) {
            Due.isRefused("node(" + node + ", 0)", Due.INDEX, x, () -> x.node(node, 0));
        }
        x.clear();
        Due.isRefused("node(1, 0) behind clear()", Due.INDEX, x, () -> x.node(1, 0));
        BoardNotation y = Boards.line(199);
        Due.is("node(199, 1)", y.node(199, 1), 8);
        Due.isRefused("node(200, 1)", Due.INDEX, y, () -> y.node(200, 1));
    }

    private static void nodeNoWhat() {
        Due.sentence("Throws `IndexOutOfBoundsException` if there is no such node, or what is not 0 to 4");
        BoardNotation x = fork();
        Due.isRefused("node(1, -1)", Due.INDEX, x, () -> x.node(1, -1));
        Due.is("node(1, 0)", x.node(1, 0), 0);
        Due.is("node(1, 4)", x.node(1, 4), 2);
        Due.isRefused("node(1, 5)", Due.INDEX, x, () -> x.node(1, 5));
        Due.isRefused("node(0, 5)", Due.INDEX, x, () -> x.node(0, 5));
        for (int what : FAR) {
            Due.isRefused("node(1, " + what + ")", Due.INDEX, x, () -> x.node(1, what));
        }
    }

    private static void continuationNoNode() {
        Due.sentence("Throws `IndexOutOfBoundsException` if there is no such node or continuation");
        BoardNotation x = fork();
        Due.isRefused("continuation(-1, 0)", Due.INDEX, x, () -> x.continuation(-1, 0));
        Due.is("continuation(0, 0)", x.continuation(0, 0), 1);
        Due.isRefused("continuation(6, 0)", Due.INDEX, x, () -> x.continuation(6, 0));
        for (int node : FAR) {
            Due.isRefused("continuation(" + node + ", 0)", Due.INDEX, x, () -> x.continuation(node, 0));
        }
        x.clear();
        Due.isRefused("continuation(1, 0) behind clear()", Due.INDEX, x, () -> x.continuation(1, 0));
        Due.isRefused("continuation(0, 0) behind clear()", Due.INDEX, x, () -> x.continuation(0, 0));
    }

    private static void continuationNoContinuation() {
        Due.sentence("Throws `IndexOutOfBoundsException` if there is no such node or continuation");
        BoardNotation x = fork();
        Due.isRefused("continuation(0, -1)", Due.INDEX, x, () -> x.continuation(0, -1));
        Due.is("continuation(0, 2)", x.continuation(0, 2), 3);
        Due.isRefused("continuation(0, 3)", Due.INDEX, x, () -> x.continuation(0, 3));
        Due.is("continuation(1, 1)", x.continuation(1, 1), 5);
        Due.isRefused("continuation(1, 2)", Due.INDEX, x, () -> x.continuation(1, 2));
        Due.isRefused("continuation(5, 0) of a node without any", Due.INDEX, x, () -> x.continuation(5, 0));
        Due.isRefused("continuation(5, -1) of a node without any", Due.INDEX, x, () -> x.continuation(5, -1));
        for (int index : FAR) {
            Due.isRefused("continuation(0, " + index + ")", Due.INDEX, x, () -> x.continuation(0, index));
        }
    }

    private static void continuationsAtTheLimit() {
        Due.sentence("there are at most 200");
        BoardNotation x = Boards.broad();
        Due.is("the nodes", x.state(4), 200);
        Due.is("continuation(0, 0)", x.continuation(0, 0), 1);
        Due.is("continuation(0, 198)", x.continuation(0, 198), 199);
        Due.isRefused("continuation(0, 199)", Due.INDEX, x, () -> x.continuation(0, 199));
        BoardNotation y = Boards.line(199);
        Due.is("continuation(198, 0)", y.continuation(198, 0), 199);
        Due.isRefused("continuation(199, 0)", Due.INDEX, y, () -> y.continuation(199, 0));
    }

    private static void goToAnswers() {
        Due.sentence("Returns the side whose turn it is there.");
        BoardNotation x = Boards.line(199);
        int[] nodes = {0, 1, 2, 198, 199, 199, 100, 0, 0};
        for (int node : nodes) {
            Due.is("goTo(" + node + ")", x.goTo(node), node % 2);
            Due.is("state(3)", x.state(3), node);
            Due.is("state(0)", x.state(0), node % 2);
            int here = node % 4;
            Due.is("at(a1) at node " + node, x.at(0), here == 1 || here == 2 ? -1 : 0);
            Due.is("at(h8) at node " + node, x.at(63), here == 2 || here == 3 ? -1 : 1);
        }
    }

    private static void goToNoNode() {
        Due.sentence("Throws `IndexOutOfBoundsException` if there is no such node");
        BoardNotation x = Boards.columns();
        Due.isRefused("goTo(-1)", Due.INDEX, x, () -> x.goTo(-1));
        Due.is("goTo(0)", x.goTo(0), 0);
        Due.isRefused("goTo(1) with node 0 alone", Due.INDEX, x, () -> x.goTo(1));
        x.play(0, 8);
        Due.is("goTo(1)", x.goTo(1), 1);
        Due.isRefused("goTo(2)", Due.INDEX, x, () -> x.goTo(2));
        for (int node : FAR) {
            Due.isRefused("goTo(" + node + ")", Due.INDEX, x, () -> x.goTo(node));
        }
        x.clear();
        Due.isRefused("goTo(1) behind clear()", Due.INDEX, x, () -> x.goTo(1));
        BoardNotation y = Boards.line(199);
        Due.isRefused("goTo(200)", Due.INDEX, y, () -> y.goTo(200));
        Due.is("goTo(199)", y.goTo(199), 1);
    }

    private static void promoteAnswers() {
        Due.sentence("Returns its place among them before.");
        BoardNotation x = fork();
        Due.is("promote() of the first", x.promote(1), 0);
        Due.is("promote() of the second", x.promote(2), 1);
        Due.is("promote() of it again", x.promote(2), 0);
        Due.is("promote() of the last", x.promote(3), 2);
        Due.is("promote() of the one that was first", x.promote(1), 2);
        Due.is("promote() of the last below node 1", x.promote(5), 1);
        BoardNotation y = Boards.columns();
        y.play(0, 8);
        Due.is("promote() of an only one", y.promote(1), 0);
    }

    private static void promoteKeepsTheOthers() {
        Due.sentence("Makes a node the main one of those beside it; the order of the others stays.");
        BoardNotation x = fork();
        playFrom(x, 0, 0, 32);
        x.goTo(4);
        x.promote(1);
        children(x, 0, 1, 2, 3, 6);
        x.promote(2);
        children(x, 0, 2, 1, 3, 6);
        x.promote(6);
        children(x, 0, 6, 2, 1, 3);
        x.promote(1);
        children(x, 0, 1, 6, 2, 3);
        x.promote(3);
        children(x, 0, 3, 1, 6, 2);
        children(x, 1, 4, 5);
        Due.is("the present node", x.state(3), 4);
        Due.is("node(3, 2)", x.node(3, 2), 24);
        x.promote(5);
        children(x, 1, 5, 4);
        children(x, 0, 3, 1, 6, 2);
        Due.is("a new one is the last", playFrom(x, 0, 0, 40), 7);
        children(x, 0, 3, 1, 6, 2, 7);
        Due.is("promote() of it", x.promote(7), 4);
        children(x, 0, 7, 3, 1, 6, 2);
        Due.is("the next new one is the last", playFrom(x, 0, 0, 48), 8);
        children(x, 0, 7, 3, 1, 6, 2, 8);
        BoardNotation y = fork();
        y.promote(3);
        y.promote(2);
        Due.is("behind promote() of the second, a new one is the last", playFrom(y, 0, 0, 40), 6);
        children(y, 0, 2, 3, 1, 6);
    }

    private static void promoteAtTheLimit() {
        Due.sentence("Returns its place among them before.");
        BoardNotation x = Boards.broad();
        Due.is("promote() of the last of 199", x.promote(199), 198);
        Due.is("the first", x.continuation(0, 0), 199);
        Due.is("the second", x.continuation(0, 1), 1);
        Due.is("the last", x.continuation(0, 198), 198);
        Due.is("promote() of the one in the middle", x.promote(100), 100);
        Due.is("the first", x.continuation(0, 0), 100);
        Due.is("the one ahead of its place", x.continuation(0, 100), 99);
        Due.is("the one behind its place", x.continuation(0, 101), 101);
        Due.is("the continuations", x.node(0, 4), 199);
    }

    private static void promoteNoNode() {
        Due.sentence("Throws `IndexOutOfBoundsException` if there is no such node, or it is node 0");
        BoardNotation x = fork();
        Due.isRefused("promote(-1)", Due.INDEX, x, () -> x.promote(-1));
        Due.isRefused("promote(0)", Due.INDEX, x, () -> x.promote(0));
        Due.is("promote(1)", x.promote(1), 0);
        Due.is("promote(5)", x.promote(5), 1);
        Due.isRefused("promote(6)", Due.INDEX, x, () -> x.promote(6));
        for (int node : FAR) {
            Due.isRefused("promote(" + node + ")", Due.INDEX, x, () -> x.promote(node));
        }
        x.clear();
        Due.isRefused("promote(0) with node 0 alone", Due.INDEX, x, () -> x.promote(0));
        Due.isRefused("promote(1) with node 0 alone", Due.INDEX, x, () -> x.promote(1));
        BoardNotation y = Boards.line(199);
        Due.is("promote(199)", y.promote(199), 0);
        Due.isRefused("promote(200)", Due.INDEX, y, () -> y.promote(200));
    }

    private static void clearAnswers() {
        Due.sentence("Returns how many nodes there were before, with node 0.");
        BoardNotation x = new BoardNotation();
        Due.is("clear() of a new object", x.clear(), 1);
        BoardNotation y = Boards.line(1);
        Due.is("clear() of two nodes", y.clear(), 2);
        Due.is("clear() again", y.clear(), 1);
        Due.is("clear() of 200 nodes", Boards.line(199).clear(), 200);
        Due.is("clear() of 200 nodes side by side", Boards.broad().clear(), 200);
    }

    private static void clearKeepsTheRest() {
        Due.sentence("Takes all nodes away but node 0, which is the present one.");
        BoardNotation x = fork();
        Due.feed(x, "Ra8?");
        x.read();
        x.goTo(5);
        x.clear();
        Due.is("the present node", x.state(3), 0);
        Due.is("the nodes", x.state(4), 1);
        Due.is("the kinds", x.state(5), 1);
        Due.is("the tape", x.state(6), 4);
        Due.is("found(0)", x.found(0), 3);
        Due.is("the side", x.state(0), 0);
        Due.is("at(0)", x.at(0), 0);
        Due.is("at(63)", x.at(63), 1);
        children(x, 0);
        Due.is("play() of what was node 3", x.play(0, 24), 1);
        children(x, 0, 1);
        children(x, 1);
        Due.is("play() of what was node 4", x.play(63, 55), 2);
        children(x, 1, 2);
    }

    private static void branchingOfNone() {
        Due.sentence("0 if none has");
        Due.is("branching() of a new object", new BoardNotation().branching(), 0.0);
        BoardNotation x = Boards.columns();
        Due.is("branching() of node 0", x.branching(), 0.0);
        x.play(0, 8);
        Due.is("branching() of one node below", x.branching(), 1.0);
        x.clear();
        Due.is("branching() behind clear()", x.branching(), 0.0);
    }

    private static void branchingMeans() {
        Due.sentence("Returns the mean of the numbers of continuations of all nodes that have any");
        BoardNotation x = fork();
        Due.is("3 and 2", x.branching(), 2.5);
        playFrom(x, 2, 63, 55);
        Due.is("3, 2 and 1", x.branching(), 2.0);
        playFrom(x, 3, 63, 55);
        Due.is("3, 2, 1 and 1", x.branching(), 1.75);
        x.goTo(7);
        x.play(24, 32);
        Due.is("3, 2, 1, 1 and 1", x.branching(), 8.0 / 5.0);
        BoardNotation y = fork();
        playFrom(y, 2, 63, 55);
        playFrom(y, 0, 0, 32);
        Due.is("4, 2 and 1", y.branching(), 7.0 / 3.0);
        Due.is("199 ones", Boards.line(199).branching(), 1.0);
        Due.is("199 alone", Boards.broad().branching(), 199.0);
        BoardNotation z = Boards.line(198);
        playFrom(z, 0, 0, 16);
        Due.is("one 2 and 197 ones", z.branching(), 199.0 / 198.0);
    }

    private static Numbers empties(Numbers numbers, int squares) {
        for (int k = 0; k < squares; k++) {
            numbers.add(-1);
        }
        return numbers;
    }

    private static void digestOfTheNewObject() {
        Due.sentence("A number d starts with 353; for each of the following numbers x, d becomes d * 31 + x, which wraps"
                + " around as a 64-bit integer");
        Numbers due = empties(new Numbers().add(0, 0, 0, 0, 1, 0, 0), 64).add(-1, -1, -1, 0, 0);
        if (!due.isWide()) {
            Due.tell("the numbers do not wrap around");
        }
        Due.isLong("digest() of a new object", new BoardNotation().digest(), due.digest());
        BoardNotation x = new BoardNotation();
        x.digest();
        Due.isLong("digest() again", x.digest(), due.digest());
    }

    private static void digestOfAGame() {
        Due.sentence("what state() tells, in its order; for each square what at() tells; for each node what node() tells, in"
                + " its order, and its continuations; the bytes of the tape");
        BoardNotation x = fork();
        x.promote(3);
        x.goTo(5);
        Due.feed(x, "Ra5");
        Numbers due = new Numbers().add(0, 0, 7, 5, 6, 1, 3);
        empties(due, 8).add(0);
        empties(due, 38).add(1);
        empties(due, 16);
        due.add(-1, -1, -1, 0, 3, 3, 1, 2).add(0, 0, 8, 1, 2, 4, 5).add(0, 0, 16, 1, 0).add(0, 0, 24, 1, 0);
        due.add(1, 63, 55, 2, 0).add(1, 63, 47, 2, 0).addText("Ra5");
        Due.isLong("digest() of a game at node 5", x.digest(), due.digest());
    }

    /** The longest of all texts on the tape, and as many nodes as there can be. */
    private static void digestOfAFullGame() {
        Due.sentence("for each node what node() tells, in its order, and its continuations; the bytes of the tape");
        BoardNotation x = Boards.broad();
        x.writeGame();
        Numbers due = new Numbers().add(0, 0, Boards.CROWD_MOVES, 0, 200, 3, Boards.broadText().length());
        for (int square = 0; square < 64; square++) {
            due.add(Boards.crowdAt(square));
        }
        due.add(-1, -1, -1, 0, 199);
        for (int node = 1; node <= 199; node++) {
            due.add(node);
        }
        List<int[]> moves = Boards.longestMoves();
        for (int node = 1; node <= 199; node++) {
            due.add(0, moves.get(node - 1)[0], moves.get(node - 1)[1], 1, 0);
        }
        due.addText(Boards.broadText());
        Due.isLong("digest() of 200 nodes", x.digest(), due.digest());
    }

    private static void digestOfBytes() {
        Due.sentence("the bytes of the tape");
        int[] bytes = {0, 1, 127, 128, 255};
        BoardNotation x = new BoardNotation();
        Numbers due = empties(new Numbers().add(0, 0, 0, 0, 1, 0, bytes.length), 64).add(-1, -1, -1, 0, 0);
        for (int b : bytes) {
            x.feed(b, -1, -1, -1);
            due.add(b);
        }
        Due.isLong("digest() with low and high bytes", x.digest(), due.digest());
        BoardNotation y = new BoardNotation();
        due = empties(new Numbers().add(0, 0, 0, 0, 1, 0, 2000), 64).add(-1, -1, -1, 0, 0);
        for (int k = 0; k < 500; k++) {
            y.feed(255, 254, 1, 0);
            due.add(255, 254, 1, 0);
        }
        Due.isLong("digest() with a full tape", y.digest(), due.digest());
    }
}
