/** The boundary cases of the term Text of a game and of promise 19 (writeGame), sentence by sentence. */
public final class GameTextBoundaryTest {
    public static void main(String[] args) {
        nothingToWrite();
        oneMoveAndMore();
        oneOtherContinuation();
        otherContinuationsInTheirOrder();
        variationsBeforeTheMainLine();
        variationsWithinVariations();
        blanks();
        movesOfTheirNodes();
        writtenFromNodeZeroOn();
        inThePlaceOfAll();
        presentNodeStays();
        answers();
        longestText();
        longestLine();
        readAgain();
        Due.end();
    }

    private static int play(BoardNotation x, int node, String from, String to) {
        x.goTo(node);
        return Due.play(x, from, to);
    }

    private static void nothingToWrite() {
        Due.sentence("A node with continuations writes: its main move");
        Due.isText("a new object", Due.writeGame(new BoardNotation()), "");
        BoardNotation x = Boards.columns();
        Due.feed(x, "old");
        Due.isText("node 0 alone", Due.writeGame(x), "");
        Due.play(x, "a1", "a2");
        Due.isText("one move", Due.writeGame(x), "Ra2");
        x.clear();
        Due.isText("behind clear()", Due.writeGame(x), "");
    }

    private static void oneMoveAndMore() {
        Due.sentence("then what the node of the main move writes");
        Due.isText("one move", Due.writeGame(Boards.line(1)), "Ra2");
        Due.isText("two moves", Due.writeGame(Boards.line(2)), "Ra2 Rh7");
        Due.isText("five moves", Due.writeGame(Boards.line(5)), "Ra2 Rh7 Ra1 Rh8 Ra2");
    }

    private static void oneOtherContinuation() {
        Due.sentence("then for each other continuation, in their order, ( (40), the move, what its node writes, and ) (41)");
        BoardNotation x = Boards.line(1);
        play(x, 0, "a1", "a3");
        Due.isText("beside the only move", Due.writeGame(x), "Ra2 (Ra3)");
        Due.is("the (", x.byteAt(4), 40);
        Due.is("the )", x.byteAt(8), 41);
        play(x, 2, "h8", "h7");
        Due.isText("with a move behind it", Due.writeGame(x), "Ra2 (Ra3 Rh7)");
        play(x, 1, "h8", "h6");
        Due.isText("with a main move behind it", Due.writeGame(x), "Ra2 (Ra3 Rh7) Rh6");
        BoardNotation y = Boards.line(2);
        play(y, 1, "h8", "h5");
        Due.isText("beside the last move", Due.writeGame(y), "Ra2 Rh7 (Rh5)");
    }

    private static void otherContinuationsInTheirOrder() {
        Due.sentence("then for each other continuation, in their order");
        BoardNotation x = Boards.line(1);
        play(x, 0, "a1", "a5");
        play(x, 0, "a1", "a3");
        play(x, 0, "a1", "a4");
        Due.isText("as they were made", Due.writeGame(x), "Ra2 (Ra5) (Ra3) (Ra4)");
        x.promote(4);
        Due.isText("behind promote() of the last", Due.writeGame(x), "Ra4 (Ra2) (Ra5) (Ra3)");
        x.promote(2);
        Due.isText("behind promote() of the one in the middle", Due.writeGame(x), "Ra5 (Ra4) (Ra2) (Ra3)");
    }

    private static void variationsBeforeTheMainLine() {
        Due.sentence("then for each other continuation, in their order, ( (40), the move, what its node writes, and ) (41);"
                + " then what the node of the main move writes");
        BoardNotation x = Boards.line(3);
        play(x, 0, "a1", "a3");
        play(x, 0, "a1", "a4");
        play(x, 1, "h8", "h6");
        play(x, 2, "a2", "a7");
        Due.isText("at three nodes of the line", Due.writeGame(x), "Ra2 (Ra3) (Ra4) Rh7 (Rh6) Ra1 (Ra7)");
        x.promote(4);
        Due.isText("behind promote()", Due.writeGame(x), "Ra3 (Ra2 Rh7 (Rh6) Ra1 (Ra7)) (Ra4)");
    }

    private static void variationsWithinVariations() {
        Due.sentence("what its node writes");
        BoardNotation x = Boards.line(1);
        play(x, 0, "a1", "a3");
        Due.play(x, "h8", "h7");
        play(x, 2, "h8", "h6");
        Due.play(x, "a3", "a4");
        play(x, 4, "a3", "a5");
        play(x, 2, "h8", "h5");
        Due.isText("three deep", Due.writeGame(x), "Ra2 (Ra3 Rh7 (Rh6 Ra4 (Ra5)) (Rh5))");
        play(x, 1, "h8", "h7");
        play(x, 7, "a3", "a6");
        Due.isText("and a main line behind them", Due.writeGame(x), "Ra2 (Ra3 Rh7 (Rh6 Ra4 (Ra5)) (Rh5 Ra6)) Rh7");
        BoardNotation y = Boards.line(1);
        play(y, 0, "a1", "a3");
        Due.play(y, "h8", "h7");
        play(y, 2, "h8", "h6");
        play(y, 0, "a1", "a4");
        Due.isText("two ) side by side, and a ( behind them", Due.writeGame(y), "Ra2 (Ra3 Rh7 (Rh6)) (Ra4)");
    }

    private static void blanks() {
        Due.sentence("Ahead of each move, and ahead of each (, there is a blank (32), if something has been written, unless"
                + " the byte ahead is (. Nothing else is written.");
        BoardNotation x = Boards.line(2);
        play(x, 0, "a1", "a3");
        Due.isText("the text", Due.writeGame(x), "Ra2 (Ra3) Rh7");
        Due.is("the first byte", x.byteAt(0), 'R');
        Due.is("ahead of the (", x.byteAt(3), 32);
        Due.is("behind the (", x.byteAt(5), 'R');
        Due.is("ahead of the )", x.byteAt(7), '3');
        Due.is("behind the )", x.byteAt(9), 32);
        Due.is("the last byte", x.byteAt(12), '7');
        Due.is("all bytes", x.state(6), 13);
    }

    /** Moves are told as at the node from which they are played, wherever the present node is. */
    private static void movesOfTheirNodes() {
        Due.sentence("A move is written in its short form.");
        BoardNotation x = Due.chess();
        Due.put(x, "h8", 0, 1);
        Due.put(x, "a7", 1, 0);
        Due.put(x, "b1", 1, 0);
        Due.put(x, "e1", 2, 1);
        Due.play(x, "b1", "e1");
        Due.play(x, "h8", "g8");
        Due.play(x, "e1", "e8");
        play(x, 2, "a7", "e7");
        play(x, 0, "b1", "b8");
        play(x, 0, "b1", "b7");
        play(x, 0, "a7", "b7");
        for (int node : new int[] {7, 5, 3, 0}) {
            x.goTo(node);
            Due.isText("at node " + node, Due.writeGame(x), "Rxe1 (Rb8#) (Rbb7) (Rab7) Kg8 Re8# (Rae7)");
        }
    }

    private static void writtenFromNodeZeroOn() {
        Due.sentence("It is written from node 0 on.");
        BoardNotation x = Boards.line(3);
        for (int node = 0; node <= 3; node++) {
            x.goTo(node);
            Due.isText("at node " + node, Due.writeGame(x), "Ra2 Rh7 Ra1");
        }
    }

    private static void inThePlaceOfAll() {
        Due.sentence("Writes the text of the game to the tape, in the place of all that was there.");
        BoardNotation x = Boards.line(2);
        Due.feed(x, "?".repeat(1000));
        Due.isText("behind many bytes", Due.writeGame(x), "Ra2 Rh7");
        Due.isText("behind its own text", Due.writeGame(x), "Ra2 Rh7");
        Due.isThrown("byteAt(7)", Due.INDEX, () -> x.byteAt(7));
        BoardNotation y = Boards.columns();
        Due.feed(y, "?".repeat(2000));
        Due.is("node 0 alone, behind a full tape", y.writeGame(), 0);
        Due.is("feed() behind it", y.feed(1, -1, -1, -1), 1);
        Due.is("byteAt(0)", y.byteAt(0), 1);
    }

    private static void presentNodeStays() {
        Due.sentence("The present node stays.");
        BoardNotation x = Boards.line(3);
        play(x, 1, "h8", "h5");
        for (int node = 4; node >= 0; node--) {
            x.goTo(node);
            x.empty();
            x.writeGame();
            x.empty();
            long digest = x.digest();
            x.writeGame();
            x.empty();
            Due.is("the present node", x.state(3), node);
            Due.isLong("the present position at node " + node, x.digest(), digest);
            Due.is("at(h8) at node " + node, x.at(63), node < 2 ? 1 : -1);
        }
    }

    private static void answers() {
        Due.sentence("Returns the number of bytes.");
        Due.is("node 0 alone", Boards.columns().writeGame(), 0);
        Due.is("one move", Boards.line(1).writeGame(), 3);
        Due.is("199 moves", Boards.line(199).writeGame(), 199 * 4 - 1);
    }

    /**
     * No game has more than 2000 bytes: each of 199 moves takes 7 bytes at most, and a blank and two brackets,
     * of which the first one needs none. This game takes all of them, and none of them is refused.
     */
    private static void longestText() {
        Due.sentence("Throws `IllegalStateException` if there would be more than 2000");
        BoardNotation x = Boards.broad();
        Due.is("writeGame() of the longest text", x.writeGame(), 7 + 198 * 10);
        Due.is("state(6)", x.state(6), 1987);
        String text = Boards.broadText();
        for (int place : new int[] {0, 6, 7, 8, 9, 15, 16, 17, 1977, 1985, 1986}) {
            Due.is("byteAt(" + place + ")", x.byteAt(place), text.charAt(place));
        }
        Due.is("feed() up to the limit", x.feed(32, 32, 32, 32), 1991);
        Due.is("writeGame() again", x.writeGame(), 1987);
    }

    private static void longestLine() {
        Due.sentence("there are at most 200");
        BoardNotation x = Boards.line(199);
        x.writeGame();
        Due.is("the present node", x.state(3), 199);
        Due.is("the first byte", x.byteAt(0), 'R');
        Due.is("the last byte", x.byteAt(794), '1');
        BoardNotation y = Boards.columns();
        Due.feed(y, Boards.lineText(199));
        y.readGame();
        Due.isLong("the same game, read from a text that was fed", y.digest(), x.digest());
    }

    private static void readAgain() {
        Due.sentence("games are trees of moves with variations, written as one text and read again");
        BoardNotation x = Boards.line(3);
        play(x, 0, "a1", "a3");
        play(x, 2, "a2", "a7");
        Due.isText("the text", Due.writeGame(x), "Ra2 (Ra3) Rh7 Ra1 (Ra7)");
        Due.is("readGame()", x.readGame(), 0);
        Due.isText("the text again", Due.writeGame(x), "Ra2 (Ra3) Rh7 Ra1 (Ra7)");
        Due.is("the nodes", x.state(4), 6);
        BoardNotation y = Boards.broad();
        y.writeGame();
        y.goTo(1);
        long digest = y.digest();
        Due.is("readGame() of the longest text", y.readGame(), 0);
        Due.is("the present node", y.state(3), 1);
        Due.isLong("digest() behind it", y.digest(), digest);
    }
}
