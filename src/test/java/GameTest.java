/** Promises 15 to 23: node, continuation, goTo, promote, writeGame, readGame, clear, branching, digest. */
public final class GameTest {
    public static void main(String[] args) {
        node();
        continuation();
        goTo();
        promote();
        writeGame();
        writeDeepGame();
        readGame();
        readGameErrors();
        readGameAtTheLimit();
        readManyBrackets();
        clear();
        branching();
        digest();
        Due.end();
    }

    /** Rooks a1 and h8, node 1 a2, 2 h7 below it, 3 h6 below 1, 4 a3 below 0, 5 a4 below 0. */
    private static BoardNotation rooks() {
        BoardNotation x = Due.chess();
        Due.put(x, "a1", 1, 0);
        Due.put(x, "h8", 1, 1);
        return x;
    }

    private static BoardNotation variations() {
        BoardNotation x = rooks();
        Due.play(x, "a1", "a2");
        Due.play(x, "h8", "h7");
        x.goTo(1);
        Due.play(x, "h8", "h6");
        x.goTo(0);
        Due.play(x, "a1", "a3");
        x.goTo(0);
        Due.play(x, "a1", "a4");
        return x;
    }

    private static void node() {
        BoardNotation x = variations();
        int[][] due = {{-1, -1, -1, 0, 3}, {0, 0, 8, 1, 2}, {1, 63, 55, 2, 0}, {1, 63, 47, 2, 0}, {0, 0, 16, 1, 0},
            {0, 0, 24, 1, 0}};
        for (int node = 0; node < due.length; node++) {
            for (int what = 0; what < 5; what++) {
                Due.is("node(" + node + ", " + what + ")", x.node(node, what), due[node][what]);
            }
        }
        for (int wrong : new int[] {-1, 6, 200, Integer.MIN_VALUE, Integer.MAX_VALUE}) {
            Due.isThrown("node(" + wrong + ", 0)", Due.INDEX, () -> x.node(wrong, 0));
        }
        for (int wrong : new int[] {-1, 5, Integer.MIN_VALUE, Integer.MAX_VALUE}) {
            Due.isThrown("node(0, " + wrong + ")", Due.INDEX, () -> x.node(0, wrong));
        }
    }

    private static void continuation() {
        BoardNotation x = variations();
        Due.is("continuation(0, 0)", x.continuation(0, 0), 1);
        Due.is("continuation(0, 1)", x.continuation(0, 1), 4);
        Due.is("continuation(0, 2)", x.continuation(0, 2), 5);
        Due.is("continuation(1, 0)", x.continuation(1, 0), 2);
        Due.is("continuation(1, 1)", x.continuation(1, 1), 3);
        int[][] wrong = {{0, 3}, {0, -1}, {1, 2}, {2, 0}, {-1, 0}, {6, 0}, {0, Integer.MAX_VALUE},
            {Integer.MIN_VALUE, 0}, {0, Integer.MIN_VALUE}};
        for (int[] w : wrong) {
            Due.isThrown("continuation(" + w[0] + ", " + w[1] + ")", Due.INDEX, () -> x.continuation(w[0], w[1]));
        }
    }

    private static void goTo() {
        BoardNotation x = variations();
        Due.is("goTo(3)", x.goTo(3), 0);
        Due.is("present", x.state(3), 3);
        Due.is("at(a2)", x.at(Due.square("a2")), 2);
        Due.is("at(h6)", x.at(Due.square("h6")), 3);
        Due.is("at(h8)", x.at(Due.square("h8")), -1);
        Due.is("goTo(4)", x.goTo(4), 1);
        Due.is("at(a2)", x.at(Due.square("a2")), -1);
        Due.is("at(a3)", x.at(Due.square("a3")), 2);
        Due.is("at(h8)", x.at(Due.square("h8")), 3);
        Due.is("goTo(4) again", x.goTo(4), 1);
        Due.is("goTo(0)", x.goTo(0), 0);
        Due.is("at(a1)", x.at(Due.square("a1")), 2);
        for (int wrong : new int[] {-1, 6, 200, Integer.MIN_VALUE, Integer.MAX_VALUE}) {
            Due.isThrown("goTo(" + wrong + ")", Due.INDEX, () -> x.goTo(wrong));
        }
        Due.is("present stays", x.state(3), 0);
    }

    private static void promote() {
        BoardNotation x = variations();
        Due.is("promote(5)", x.promote(5), 2);
        children(x, 0, 5, 1, 4);
        Due.is("promote(5) again", x.promote(5), 0);
        children(x, 0, 5, 1, 4);
        Due.is("promote(1)", x.promote(1), 1);
        children(x, 0, 1, 5, 4);
        Due.is("promote(4)", x.promote(4), 2);
        children(x, 0, 4, 1, 5);
        Due.is("promote(3)", x.promote(3), 1);
        children(x, 1, 3, 2);
        Due.is("present stays", x.state(3), 5);
        Due.is("node(4, 1) stays", x.node(4, 2), 16);
        Due.isText("the game", Due.writeGame(x), "Ra3 (Ra2 Rh6 (Rh7)) (Ra4)");
        for (int wrong : new int[] {0, -1, 6, Integer.MIN_VALUE, Integer.MAX_VALUE}) {
            Due.isThrown("promote(" + wrong + ")", Due.INDEX, () -> x.promote(wrong));
        }
        x.goTo(0);
        Due.is("a new move is the last", Due.play(x, "a1", "a5"), 6);
        children(x, 0, 4, 1, 5, 6);
        Due.is("promote(6)", x.promote(6), 3);
        children(x, 0, 6, 4, 1, 5);
        BoardNotation y = rooks();
        Due.isThrown("promote(0) of a new game", Due.INDEX, () -> y.promote(0));
        Due.isThrown("promote(1) of a new game", Due.INDEX, () -> y.promote(1));
        Due.play(y, "a1", "a2");
        Due.is("promote of an only node", y.promote(1), 0);
        children(y, 0, 1);
    }

    private static void children(BoardNotation x, int node, int... due) {
        Due.is("node(" + node + ", 4)", x.node(node, 4), due.length);
        for (int index = 0; index < due.length; index++) {
            Due.is("continuation(" + node + ", " + index + ")", x.continuation(node, index), due[index]);
        }
    }

    private static void writeGame() {
        BoardNotation x = variations();
        Due.feed(x, "old");
        x.goTo(2);
        Due.isText("the game", Due.writeGame(x), "Ra2 (Ra3) (Ra4) Rh7 (Rh6)");
        Due.is("present stays", x.state(3), 2);
        Due.is("its position stays", x.at(Due.square("h7")), 3);
        Due.is("the side stays", x.state(0), 0);
        Due.play(x, "a2", "a8");
        x.goTo(4);
        Due.play(x, "h8", "h1");
        Due.play(x, "a3", "b3");
        x.goTo(7);
        Due.play(x, "a3", "c3");
        Due.isText("the game", Due.writeGame(x), "Ra2 (Ra3 Rh1 Rb3 (Rc3)) (Ra4) Rh7 (Rh6) Ra8");
        Due.is("nodes", x.state(4), 10);
        BoardNotation y = Due.chess();
        Due.put(y, "a1", 1, 0);
        Due.put(y, "e1", 1, 0);
        Due.put(y, "c3", 0, 1);
        Due.put(y, "c8", 1, 1);
        Due.play(y, "a1", "c1");
        Due.isText("unlike, check", Due.writeGame(y), "Rac1+");
        Due.play(y, "c3", "d2");
        Due.play(y, "c1", "c8");
        Due.play(y, "d2", "e1");
        Due.isText("captures", Due.writeGame(y), "Rac1+ Kd2 Rxc8 Kxe1");
        y.clear();
        Due.feed(y, "old");
        Due.isText("no moves", Due.writeGame(y), "");
        Due.is("state(6)", y.state(6), 0);
    }

    /** A game of 200 nodes whose variations lie within one another as deep as they can. */
    private static void writeDeepGame() {
        BoardNotation x = rooks();
        StringBuilder due = new StringBuilder("Ra2");
        Due.play(x, "a1", "a2");
        int present = 0;
        boolean isWhite = true;
        String white = "a1";
        String black = "h8";
        StringBuilder tail = new StringBuilder();
        for (int node = 2; node + 1 < 200; node += 2) {
            x.goTo(present);
            String here = isWhite ? white : black;
            String file = here.substring(0, 1);
            String there = file + (here.charAt(1) == '4' ? "6" : "4");
            present = Due.play(x, here, there);
            Due.is("the node of a variation", present, node);
            due.append(" (R").append(there);
            white = isWhite ? there : white;
            black = isWhite ? black : there;
            String next = isWhite ? black : white;
            String aside = next.charAt(0) + (next.charAt(1) == '8' || next.charAt(1) == '1' ? "5" : "7");
            Due.play(x, next, aside);
            due.append(" R").append(aside);
            tail.append(')');
            isWhite = !isWhite;
        }
        Due.is("nodes", x.state(4), 200);
        Due.is("writeGame() of the deep game", x.writeGame(), due.length() + tail.length());
        x.goTo(1);
        BoardNotation y = rooks();
        Due.is("readGame() of the deep game", Due.readGame(y, due.toString() + tail), 0);
        Due.is("present: the main move", y.state(3), 1);
        Due.isLong("the same game, and the same tape", x.digest(), y.digest());
        y.goTo(199);
        y.writeGame();
        y.goTo(1);
        Due.isLong("the deep game again", x.digest(), y.digest());
    }

    private static void readGame() {
        textIs("", 0, -1, 0, 1, "");
        textIs("Ra2 Rh7 Ra3", 0, -1, 3, 4, "Ra2 Rh7 Ra3");
        textIs("  Ra2   Rh7  ", 0, -1, 2, 3, "Ra2 Rh7");
        textIs("    ", 0, -1, 0, 1, "");
        textIs("Ra2(Ra3 Rh7)Rh6", 0, -1, 4, 5, "Ra2 (Ra3 Rh7) Rh6");
        textIs("Ra2 ( Ra3 Rh7 ) Rh6", 0, -1, 4, 5, "Ra2 (Ra3 Rh7) Rh6");
        textIs("Ra2 (Ra3 (Ra4) (Ra5) Rh7 (Rh6)) (Ra6)", 0, -1, 1, 8, "Ra2 (Ra3 Rh7 (Rh6)) (Ra4) (Ra5) (Ra6)");
        textIs("Ra2 Rh7 (Rh6) (Rh5 Ra3) Ra8", 0, -1, 6, 7, "Ra2 Rh7 (Rh6) (Rh5 Ra3) Ra8");
        textIs("Ra2 (Ra2 Rh7)", 0, -1, 1, 3, "Ra2 Rh7");
        textIs("Ra2 Rh7 (Rh6) Ra8 (Ra3)", 0, -1, 4, 6, "Ra2 Rh7 (Rh6) Ra8 (Ra3)");
        BoardNotation y = rooks();
        Due.play(y, "a1", "a7");
        Due.play(y, "h8", "h2");
        gameIs(y, "Ra2", 0, -1, 1, 2, "Ra2");
        Due.is("at(a2)", y.at(Due.square("a2")), 2);
    }

    private static void textIs(String text, int error, int place, int present, int nodes, String game) {
        gameIs(rooks(), text, error, place, present, nodes, game);
    }

    private static void gameIs(BoardNotation x, String text, int error, int place, int present, int nodes,
            String game) {
        Due.is("readGame() of \"" + text + "\"", Due.readGame(x, text), error);
        Due.isText("the tape behind readGame()", Due.tape(x), text);
        Due.is("found(0) of \"" + text + "\"", x.found(0), place);
        Due.is("the present node of \"" + text + "\"", x.state(3), present);
        Due.is("the nodes of \"" + text + "\"", x.state(4), nodes);
        Due.isText("the game of \"" + text + "\"", Due.writeGame(x), game);
        Due.is("the present node stays", x.state(3), present);
    }

    private static void readGameErrors() {
        textIs("Ra2 Rh", 1, 4, 1, 2, "Ra2");
        textIs("Ra2 Rh7x Ra3", 1, 4, 1, 2, "Ra2");
        textIs("Ra2\nRh7", 1, 0, 0, 1, "");
        textIs("Ra2  Qh7", 2, 5, 1, 2, "Ra2");
        textIs("Ra2 Ra3", 3, 4, 1, 2, "Ra2");
        textIs("Ra2 Rxh7", 6, 4, 1, 2, "Ra2");
        textIs("Ra2 (Ra3 Rh7+)", 7, 9, 2, 3, "Ra2 (Ra3)");
        textIs("(Ra2)", 8, 0, 0, 1, "");
        textIs(" (", 8, 1, 0, 1, "");
        textIs(")", 8, 0, 0, 1, "");
        textIs("Ra2 )", 8, 4, 1, 2, "Ra2");
        textIs("Ra2)Rh7", 8, 3, 1, 2, "Ra2");
        textIs("Ra2 (Ra3)) Rh7", 8, 9, 1, 3, "Ra2 (Ra3)");
        textIs("Ra2 ()", 8, 5, 0, 2, "Ra2");
        textIs("Ra2 ((Ra3", 8, 5, 0, 2, "Ra2");
        textIs("Ra2 Rh7 ((Ra3", 8, 9, 1, 3, "Ra2 Rh7");
        textIs("Ra2 Rh7 ( )", 8, 10, 1, 3, "Ra2 Rh7");
        textIs("Ra2 (", 8, 5, 0, 2, "Ra2");
        textIs("Ra2 (  ", 8, 7, 0, 2, "Ra2");
        textIs("Ra2 (Ra3 ", 8, 9, 2, 3, "Ra2 (Ra3)");
        textIs("Ra2 (Ra3 (Ra4)", 8, 14, 2, 4, "Ra2 (Ra3) (Ra4)");
        textIs("Ra2 (Qa3", 2, 5, 0, 2, "Ra2");
        BoardNotation y = Due.chess();
        Due.put(y, "e1", 0, 0);
        Due.put(y, "e2", 2, 0);
        Due.put(y, "e8", 1, 1);
        Due.put(y, "b1", 2, 0);
        Due.put(y, "f1", 2, 0);
        gameIs(y, "Nd4", 4, 0, 0, 1, "");
        gameIs(y, "Kf2 Re7 Nd2", 5, 8, 2, 3, "Kf2 Re7");
        gameIs(y, "Kf2 Re7 Nfd2", 0, -1, 3, 4, "Kf2 Re7 Nfd2");
    }

    private static void readGameAtTheLimit() {
        limitIs("", 0, -1, 199);
        limitIs(" Rh8", 9, 796, 199);
        limitIs(" (Ra1) (Ra1(Ra3)) Rh7", 9, Boards.lineText(199).length() + 12, 198);
        limitIs(" Rh1+", 7, Boards.lineText(199).length() + 1, 199);
    }

    /** Reads a game of 200 nodes and more. */
    private static void limitIs(String more, int error, int place, int present) {
        BoardNotation x = rooks();
        Due.is("readGame() of 199 moves and \"" + more + "\"", Due.readGame(x, Boards.lineText(199) + more), error);
        Due.is("found(0)", x.found(0), place);
        Due.is("present", x.state(3), present);
        Due.is("nodes", x.state(4), 200);
        x.goTo(199);
        Due.is("writeGame()", x.writeGame(), Boards.lineText(199).length());
        BoardNotation y = rooks();
        Due.feed(y, Boards.lineText(199));
        y.readGame();
        Due.isLong("the same 199 moves", x.digest(), y.digest());
    }

    /** As many brackets open at once as the tape has room for: each opens a move that is played already. */
    private static void readManyBrackets() {
        BoardNotation x = Boards.columns();
        Due.is("readGame() of 499 brackets", Due.readGame(x, "Ra2" + "(Ra2".repeat(499)), 8);
        Due.is("found(0)", x.found(0), 1999);
        Due.is("nodes", x.state(4), 2);
        BoardNotation y = Boards.columns();
        Due.is("readGame() of 399 brackets, closed",
                Due.readGame(y, "Ra2" + "(Ra3".repeat(399) + ")".repeat(399)), 0);
        Due.is("present", y.state(3), 1);
        Due.is("nodes", y.state(4), 3);
        BoardNotation z = Boards.columns();
        Due.is("readGame() of nothing but brackets", Due.readGame(z, "(".repeat(2000)), 8);
        Due.is("found(0)", z.found(0), 0);
    }

    private static void clear() {
        BoardNotation x = variations();
        Due.feed(x, "tape");
        Due.is("clear()", x.clear(), 6);
        Due.is("present", x.state(3), 0);
        Due.is("nodes", x.state(4), 1);
        Due.is("the side", x.state(0), 0);
        Due.is("node(0, 4)", x.node(0, 4), 0);
        Due.is("at(a1)", x.at(0), 2);
        Due.is("kinds stay", x.state(5), 4);
        Due.isText("the tape stays", Due.tape(x), "tape");
        Due.isThrown("continuation(0, 0)", Due.INDEX, () -> x.continuation(0, 0));
        Due.isThrown("goTo(1)", Due.INDEX, () -> x.goTo(1));
        Due.is("clear() again", x.clear(), 1);
        Due.is("play", Due.play(x, "a1", "a3"), 1);
        Due.is("node(1, 2)", x.node(1, 2), 16);
        Due.is("node(1, 4)", x.node(1, 4), 0);
    }

    private static void branching() {
        BoardNotation x = rooks();
        Due.is("branching() of node 0", x.branching(), 0);
        Due.play(x, "a1", "a2");
        Due.is("branching() of one move", x.branching(), 1);
        Due.is("branching() of variations", variations().branching(), 2.5);
        BoardNotation y = variations();
        Due.play(y, "h8", "h5");
        Due.is("branching() of three nodes", y.branching(), 2);
        y.goTo(6);
        Due.play(y, "a4", "a5");
        Due.is("branching() of four nodes", y.branching(), 1.75);
        y.goTo(2);
        Due.play(y, "a2", "a3");
        y.goTo(3);
        Due.play(y, "a2", "a3");
        Due.is("branching() of six nodes", y.branching(), 9.0 / 6.0);
        y.clear();
        Due.is("branching() behind clear()", y.branching(), 0);
    }

    private static void digest() {
        Due.isLong("digest() of a new object", new BoardNotation().digest(), digestOf(new BoardNotation()));
        BoardNotation x = variations();
        Due.isLong("digest() of variations", x.digest(), digestOf(x));
        x = variations();
        x.promote(5);
        x.goTo(3);
        x.writeGame();
        Due.isLong("digest() with a tape", x.digest(), digestOf(x));
        x.feed(255, 0, 128, 127);
        Due.isLong("digest() with other bytes", x.digest(), digestOf(x));
        long before = x.digest();
        Due.isLong("digest() changes nothing", x.digest(), before);
        x.goTo(4);
        if (x.digest() == before) {
            Due.tell("digest() does not tell the present node");
        }
        // 353 * 31^76 + .. worked out by hand for the empty board: the numbers of a new object.
        long d = 353;
        int[] states = {0, 0, 0, 0, 1, 0, 0};
        for (int s : states) {
            d = d * 31 + s;
        }
        for (int square = 0; square < 64; square++) {
            d = d * 31 - 1;
        }
        for (int s : new int[] {-1, -1, -1, 0, 0}) {
            d = d * 31 + s;
        }
        Due.isLong("digest() of a new object, by hand", new BoardNotation().digest(), d);
    }

    private static long digestOf(BoardNotation x) {
        long d = 353;
        for (int what = 0; what <= 6; what++) {
            d = d * 31 + x.state(what);
        }
        for (int square = 0; square < 64; square++) {
            d = d * 31 + x.at(square);
        }
        for (int node = 0; node < x.state(4); node++) {
            for (int what = 0; what <= 4; what++) {
                d = d * 31 + x.node(node, what);
            }
            for (int index = 0; index < x.node(node, 4); index++) {
                d = d * 31 + x.continuation(node, index);
            }
        }
        for (int k = 0; k < x.state(6); k++) {
            d = d * 31 + x.byteAt(k);
        }
        return d;
    }
}
