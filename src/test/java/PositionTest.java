/** Promises 5 to 8: at, state, reason, play. */
public final class PositionTest {
    public static void main(String[] args) {
        at();
        state();
        checksOfSeveralRoyals();
        reason();
        blockedSteps();
        turnedSteps();
        royalsAndLegality();
        play();
        playAtTheLimit();
        Due.end();
    }

    private static void at() {
        BoardNotation x = Due.chess();
        Due.put(x, "a1", 1, 0);
        Due.put(x, "a5", 2, 1);
        Due.isThrown("at(-1)", Due.INDEX, () -> x.at(-1));
        Due.isThrown("at(64)", Due.INDEX, () -> x.at(64));
        Due.is("at(a1)", x.at(Due.square("a1")), 2);
        Due.is("at(a5)", x.at(Due.square("a5")), 5);
        Due.play(x, "a1", "a5");
        Due.is("at(a1) behind the move", x.at(Due.square("a1")), -1);
        Due.is("at(a5) behind the move", x.at(Due.square("a5")), 2);
        x.goTo(0);
        Due.is("at(a1) at node 0", x.at(Due.square("a1")), 2);
        Due.is("at(a5) at node 0", x.at(Due.square("a5")), 5);
    }

    private static void state() {
        BoardNotation x = Due.chess();
        Due.isThrown("state(-1)", Due.INDEX, () -> x.state(-1));
        Due.isThrown("state(7)", Due.INDEX, () -> x.state(7));
        Due.put(x, "a1", 0, 0);
        Due.put(x, "h8", 0, 1);
        Due.put(x, "b3", 1, 1);
        Due.feed(x, "(");
        states(x, "first", 0, 0, 1, 0, 1, 4, 1);
        Due.play(x, "a1", "a2");
        states(x, "behind Ka2", 1, 0, 17, 1, 2, 4, 1);
        Due.play(x, "b3", "b2");
        states(x, "behind Rb2+", 0, 1, 3, 2, 3, 4, 1);
        Due.play(x, "a2", "b2");
        states(x, "behind Kxb2", 1, 0, 3, 3, 4, 4, 1);
        x.goTo(1);
        states(x, "back at node 1", 1, 0, 17, 1, 4, 4, 1);
    }

    private static void states(BoardNotation x, String when, int... due) {
        for (int what = 0; what < due.length; what++) {
            Due.is(when + " state(" + what + ")", x.state(what), due[what]);
        }
    }

    /** Each piece of kind 0 is royal, and a side without one is never in check. */
    private static void checksOfSeveralRoyals() {
        BoardNotation x = Due.chess();
        Due.put(x, "a1", 0, 0);
        Due.put(x, "h1", 0, 0);
        Due.put(x, "h8", 1, 1);
        Due.is("in check by the second royal piece", x.state(1), 1);
        Due.is("legal moves away", x.state(2), 2);
        Due.put(x, "a8", 1, 1);
        Due.is("both in check", x.state(1), 1);
        Due.is("no way for both", x.state(2), 0);
        Due.put(x, "a1", -1, 0);
        Due.put(x, "h1", 1, 0);
        Due.is("no royal piece, no check", x.state(1), 0);
        Due.is("moves of the rook", x.state(2), 14);
    }

    private static void reason() {
        BoardNotation x = Due.chess();
        Due.put(x, "e1", 0, 0);
        Due.put(x, "e3", 1, 0);
        Due.put(x, "e8", 1, 1);
        Due.put(x, "d8", 0, 1);
        for (int wrong : new int[] {-1, 64, Integer.MIN_VALUE, Integer.MAX_VALUE}) {
            Due.isThrown("reason(" + wrong + ", 0)", Due.INDEX, () -> x.reason(wrong, 0));
            Due.isThrown("reason(0, " + wrong + ")", Due.INDEX, () -> x.reason(0, wrong));
        }
        Due.is("empty square", Due.reason(x, "a1", "a2"), 1);
        Due.is("piece of the other side", Due.reason(x, "e8", "e7"), 1);
        Due.is("same square", Due.reason(x, "e3", "e3"), 2);
        Due.is("not a step", Due.reason(x, "e3", "f4"), 2);
        Due.is("own piece there", Due.reason(x, "e3", "e1"), 2);
        Due.is("behind the other's piece", Due.reason(x, "e1", "e4"), 2);
        Due.is("opens the king", Due.reason(x, "e3", "d3"), 3);
        Due.is("stays in the file", Due.reason(x, "e3", "e7"), 0);
        Due.is("captures", Due.reason(x, "e3", "e8"), 0);
        Due.is("king beside", Due.reason(x, "e1", "d1"), 0);
        Due.play(x, "e3", "e8");
        Due.is("side 1 is in check", x.state(1), 1);
        Due.is("side 1 captures", Due.reason(x, "d8", "e8"), 0);
        Due.is("side 1 does not get away in the rank", Due.reason(x, "d8", "c8"), 3);
        Due.is("side 0 is not due", Due.reason(x, "e8", "e7"), 1);
    }

    private static void blockedSteps() {
        BoardNotation x = new BoardNotation();
        x.addKind('K');
        x.addKind('L');
        x.addStep(1, 2, 1, 3);
        x.addStep(1, 0, 3, 2);
        x.addStep(1, 1, 0, 2);
        Due.put(x, "a1", 1, 0);
        Due.is("once", Due.reason(x, "a1", "c2"), 0);
        Due.is("twice", Due.reason(x, "a1", "e3"), 0);
        Due.is("three times", Due.reason(x, "a1", "g4"), 0);
        Due.is("up to the reach", Due.reason(x, "a1", "c1"), 0);
        Due.is("beyond the reach", Due.reason(x, "a1", "d1"), 2);
        Due.put(x, "b1", -1, 0);
        Due.put(x, "a2", 1, 1);
        Due.put(x, "a3", 1, 1);
        Due.is("over pieces at which it does not stand", Due.reason(x, "a1", "a7"), 0);
        Due.put(x, "a4", 1, 1);
        Due.is("the other's piece at which it would stand", Due.reason(x, "a1", "a7"), 2);
        Due.is("to the other's piece", Due.reason(x, "a1", "a4"), 0);
        Due.put(x, "e3", 1, 0);
        Due.is("own piece at which it would stand", Due.reason(x, "a1", "g4"), 2);
        Due.is("to the own piece", Due.reason(x, "a1", "e3"), 2);
        Due.is("ahead of the own piece", Due.reason(x, "a1", "c2"), 0);
        Due.put(x, "g1", 1, 0);
        Due.is("at the edge", Due.reason(x, "g1", "h1"), 0);
        Due.is("not round the edge", Due.reason(x, "g1", "a2"), 2);
        Due.is("not over the edge", Due.reason(x, "g1", "a3"), 2);
    }

    private static void turnedSteps() {
        BoardNotation x = Due.chess();
        Due.put(x, "e2", 3, 0);
        Due.put(x, "e7", 3, 1);
        Due.is("side 0 goes up", Due.reason(x, "e2", "e3"), 0);
        Due.is("side 0 does not go down", Due.reason(x, "e2", "e1"), 2);
        Due.play(x, "e2", "e3");
        Due.is("side 1 goes down", Due.reason(x, "e7", "e6"), 0);
        Due.is("side 1 does not go up", Due.reason(x, "e7", "e8"), 2);
        BoardNotation y = new BoardNotation();
        y.addKind('K');
        y.addStep(0, 1, 2, 1);
        Due.put(y, "b1", 0, 0);
        Due.put(y, "f7", 0, 1);
        Due.is("dx stays", Due.reason(y, "b1", "c3"), 0);
        Due.play(y, "b1", "c3");
        Due.is("dx stays for side 1", Due.reason(y, "f7", "g5"), 0);
        Due.is("dx is not turned for side 1", Due.reason(y, "f7", "e5"), 2);
    }

    /** Royal pieces may be captured, and the side that captures must be safe behind it. */
    private static void royalsAndLegality() {
        BoardNotation x = Due.chess();
        Due.put(x, "a1", 0, 0);
        Due.put(x, "b2", 0, 1);
        Due.put(x, "b8", 1, 1);
        Due.is("a guarded royal piece is not captured", Due.reason(x, "a1", "b2"), 3);
        Due.put(x, "b8", -1, 1);
        Due.is("a royal piece is captured", Due.reason(x, "a1", "b2"), 0);
        Due.play(x, "a1", "b2");
        Due.is("no royal piece, no check", x.state(1), 0);
        Due.is("no piece, no move", x.state(2), 0);
        BoardNotation y = Due.chess();
        Due.put(y, "a1", 0, 0);
        Due.put(y, "a8", 1, 1);
        Due.put(y, "c3", 2, 0);
        Due.is("another piece helps by going between", Due.reason(y, "c3", "a4"), 0);
        Due.is("another piece does not help", Due.reason(y, "c3", "e4"), 3);
        Due.is("moves out of check", y.state(2), 4);
    }

    private static void play() {
        BoardNotation x = Due.chess();
        Due.put(x, "e1", 0, 0);
        Due.put(x, "e3", 1, 0);
        Due.put(x, "e8", 1, 1);
        for (int wrong : new int[] {-1, 64}) {
            Due.isThrown("play(" + wrong + ", 0)", Due.INDEX, () -> x.play(wrong, 0));
            Due.isThrown("play(0, " + wrong + ")", Due.INDEX, () -> x.play(0, wrong));
        }
        Due.isThrown("play of no piece", Due.STATE, () -> Due.play(x, "a1", "a2"));
        Due.isThrown("play to a square that is not reached", Due.STATE, () -> Due.play(x, "e3", "f4"));
        Due.isThrown("play that is not legal", Due.STATE, () -> Due.play(x, "e3", "f3"));
        Due.is("nodes", x.state(4), 1);
        Due.is("play", Due.play(x, "e3", "e4"), 1);
        Due.is("present", x.state(3), 1);
        Due.is("play of side 1", Due.play(x, "e8", "d8"), 2);
        x.goTo(0);
        Due.is("another move", Due.play(x, "e3", "e8"), 3);
        x.goTo(0);
        Due.is("the same move again", Due.play(x, "e3", "e4"), 1);
        Due.is("present", x.state(3), 1);
        Due.is("nodes", x.state(4), 4);
        Due.is("the same move again below", Due.play(x, "e8", "d8"), 2);
        Due.is("the same squares, another node", Due.play(x, "e4", "e5"), 4);
    }

    private static void playAtTheLimit() {
        BoardNotation x = Due.chess();
        Due.put(x, "a1", 1, 0);
        Due.put(x, "h8", 1, 1);
        for (int node = 1; node < 200; node++) {
            Due.is("play to node " + node, Boards.shuttle(x, node), node);
        }
        Due.is("nodes", x.state(4), 200);
        Due.is("moves", x.node(199, 3), 199);
        Due.isThrown("play of node 200", Due.STATE, () -> Boards.shuttle(x, 200));
        Due.is("present stays", x.state(3), 199);
        Due.is("nodes stay", x.state(4), 200);
        Due.is("the piece stays", x.at(Due.square("h7")), 3);
        x.goTo(100);
        Due.is("an old node at the limit", Boards.shuttle(x, 101), 101);
        Due.is("reason() at the limit", Due.reason(x, "h8", "h2"), 0);
        Due.isThrown("another new node at the limit", Due.STATE, () -> Due.play(x, "h8", "h2"));
        x.clear();
        Due.is("behind clear()", Due.play(x, "a1", "a3"), 1);
    }
}
