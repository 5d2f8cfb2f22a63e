/** What each call leaves as it was: the tape, what found() tells, the nodes, the present node, the position. */
public final class KeepingTest {
    private static final String TAPE = "Ra8?";

    private interface Call {
        void on(BoardNotation x);
    }

    public static void main(String[] args) {
        questionsChangeNothing();
        tapeStays();
        foundStays();
        treeStays();
        presentNodeStays();
        kindsAndPiecesStay();
        Due.end();
    }

    /** At node 2 of a game of six nodes, with a tape whose read() ends with an error at 3, behind one that has none. */
    private static BoardNotation game() {
        BoardNotation x = Boards.line(3);
        x.goTo(0);
        x.play(0, 24);
        x.goTo(1);
        x.play(63, 39);
        x.goTo(2);
        Due.read(x, "Ra8");
        Due.read(x, TAPE);
        return x;
    }

    /** The same board ahead of the first move. */
    private static BoardNotation start() {
        BoardNotation x = game();
        x.clear();
        return x;
    }

    private static void questionsChangeNothing() {
        Call[] calls = {x -> x.at(8), x -> x.state(0), x -> x.state(1), x -> x.state(2), x -> x.reason(8, 16),
            x -> x.reason(55, 47), x -> x.found(0), x -> x.byteAt(0), x -> x.node(0, 4), x -> x.continuation(0, 1),
            x -> x.branching(), x -> x.digest()};
        for (int k = 0; k < calls.length; k++) {
            BoardNotation x = game();
            long digest = x.digest();
            calls[k].on(x);
            Due.isLong("digest() behind question " + k, x.digest(), digest);
            foundIs("question " + k, x, 3, 8, 56);
        }
    }

    private static void tapeStays() {
        Call[] calls = {x -> x.play(8, 16), x -> x.play(8, 0), x -> x.goTo(0), x -> x.goTo(2), x -> x.promote(4),
            x -> x.promote(1), x -> x.clear(), x -> x.read(), x -> x.readGame()};
        for (int k = 0; k < calls.length; k++) {
            BoardNotation x = game();
            calls[k].on(x);
            Due.isText("the tape behind call " + k, Due.tape(x), TAPE);
        }
        Call[] firstCalls = {x -> x.addKind('B'), x -> x.addStep(0, 1, 0, 1), x -> x.put(8, 0, 1), x -> x.put(0, -1, 0)};
        for (int k = 0; k < firstCalls.length; k++) {
            BoardNotation x = start();
            firstCalls[k].on(x);
            Due.isText("the tape behind first call " + k, Due.tape(x), TAPE);
        }
    }

    private static void foundIs(String behind, BoardNotation x, int place, int from, int to) {
        Due.is("found(0) behind " + behind, x.found(0), place);
        Due.is("found(1) behind " + behind, x.found(1), from);
        Due.is("found(2) behind " + behind, x.found(2), to);
    }

    private static void foundStays() {
        Call[] calls = {x -> x.play(8, 16), x -> x.play(8, 0), x -> x.feed(1, 2, 3, 4), x -> x.empty(),
            x -> x.write(8, 16), x -> x.goTo(0), x -> x.promote(4), x -> x.writeGame(), x -> x.clear()};
        for (int k = 0; k < calls.length; k++) {
            BoardNotation x = game();
            calls[k].on(x);
            foundIs("call " + k, x, 3, 8, 56);
        }
        Call[] firstCalls = {x -> x.addKind('B'), x -> x.addStep(0, 1, 0, 1), x -> x.put(8, 0, 1), x -> x.put(0, -1, 0)};
        for (int k = 0; k < firstCalls.length; k++) {
            BoardNotation x = start();
            firstCalls[k].on(x);
            foundIs("first call " + k, x, 3, 8, 56);
        }
    }

    private static void treeStays() {
        Call[] calls = {x -> x.play(8, 0), x -> x.feed(1, 2, 3, 4), x -> x.empty(), x -> x.read(), x -> x.write(8, 16),
            x -> x.goTo(5), x -> x.promote(1), x -> x.writeGame()};
        for (int k = 0; k < calls.length; k++) {
            BoardNotation x = game();
            calls[k].on(x);
            Due.is("the nodes behind call " + k, x.state(4), 6);
            Due.isText("the game behind call " + k, Due.writeGame(x), "Ra2 (Ra4) Rh7 (Rh5) Ra1");
        }
    }

    private static void presentNodeStays() {
        Call[] calls = {x -> x.feed(1, 2, 3, 4), x -> x.empty(), x -> x.read(), x -> x.write(8, 16), x -> x.promote(4),
            x -> x.promote(5), x -> x.writeGame()};
        for (int k = 0; k < calls.length; k++) {
            BoardNotation x = game();
            calls[k].on(x);
            Due.is("the present node behind call " + k, x.state(3), 2);
            Due.is("at(8) behind call " + k, x.at(8), 0);
            Due.is("at(55) behind call " + k, x.at(55), 1);
            Due.is("the side behind call " + k, x.state(0), 0);
        }
    }

    private static void kindsAndPiecesStay() {
        Call[] calls = {x -> x.play(8, 16), x -> x.feed(1, 2, 3, 4), x -> x.empty(), x -> x.read(), x -> x.write(8, 16),
            x -> x.goTo(5), x -> x.promote(4), x -> x.writeGame(), x -> x.readGame(), x -> x.clear()};
        for (int k = 0; k < calls.length; k++) {
            BoardNotation x = game();
            calls[k].on(x);
            x.clear();
            Due.is("the kinds behind call " + k, x.state(5), 1);
            Due.is("the moves of the first position behind call " + k, x.state(2), 7);
            Due.is("at(0) of the first position behind call " + k, x.at(0), 0);
            Due.is("at(63) of the first position behind call " + k, x.at(63), 1);
            Due.is("the next step behind call " + k, x.addStep(0, 1, 0, 1), 3);
        }
    }
}
