/** The boundary cases of the term Short form and of promise 13 (write), sentence by sentence. */
public final class WritingBoundaryTest {
    private static final int[] FAR = {Integer.MIN_VALUE, -64, 128, Integer.MAX_VALUE};

    public static void main(String[] args) {
        othersNone();
        othersThatCount();
        fileUnlessOneShares();
        rankUnlessOneShares();
        bothFileFirst();
        manyOthers();
        captureSign();
        checkWithLegalMoves();
        checkWithoutLegalMoves();
        signsOfSideOne();
        noCheck();
        longestForm();
        writeInThePlaceOfAll();
        writeAnswers();
        writeNoSquare();
        writeWithReason();
        writePlaysNothing();
        Due.end();
    }

    /** Kind 1 A, which goes one square to each of the eight sides, on these squares; kind 2 B goes so too. */
    private static BoardNotation leapers(String... squares) {
        BoardNotation x = new BoardNotation();
        x.addKind('K');
        x.addKind('A');
        x.addKind('B');
        for (int dx = -1; dx <= 1; dx++) {
            for (int dy = -1; dy <= 1; dy++) {
                if (dx != 0 || dy != 0) {
                    x.addStep(1, dx, dy, 1);
                    x.addStep(2, dx, dy, 1);
                }
            }
        }
        for (String square : squares) {
            Due.put(x, square, 1, 0);
        }
        return x;
    }

    private static void othersNone() {
        Due.sentence("If there are none, nothing");
        Due.isText("one piece alone", Due.write(leapers("c3"), "c3", "d4"), "Ad4");
        Due.isText("another one, to other squares", Due.write(leapers("c3", "c1"), "c3", "d4"), "Ad4");
        Due.isText("another one, one square too far", Due.write(leapers("c3", "f4"), "c3", "d4"), "Ad4");
        Due.isText("another one, which reaches it", Due.write(leapers("c3", "e4"), "c3", "d4"), "Acd4");
    }

    private static void othersThatCount() {
        Due.sentence("let the others be the legal moves of other pieces of this kind to the same square");
        BoardNotation x = leapers("c3");
        Due.put(x, "e5", 2, 0);
        Due.isText("another kind", Due.write(x, "c3", "d4"), "Ad4");
        Due.put(x, "e5", 1, 1);
        Due.isText("the other side", Due.write(x, "c3", "d4"), "Ad4");
        Due.put(x, "e5", 1, 0);
        Due.isText("this kind and side", Due.write(x, "c3", "d4"), "Acd4");
        BoardNotation y = leapers("c3", "e5");
        y.addKind('R');
        y.addStep(3, 0, -1, 7);
        y.addStep(3, 0, 1, 7);
        Due.put(y, "e8", 3, 1);
        Due.put(y, "e1", 0, 0);
        Due.isText("this kind, whose move is not legal", Due.write(y, "c3", "d4"), "Ad4");
        Due.is("reason() of it", Due.reason(y, "e5", "d4"), 3);
        Due.put(y, "e2", 2, 0);
        Due.isText("this kind, whose move is legal again", Due.write(y, "c3", "d4"), "Acd4");
    }

    private static void fileUnlessOneShares() {
        Due.sentence("otherwise the file of the square from which it comes, if none of the others comes from this file");
        Due.isText("another one from another file and rank", Due.write(leapers("c3", "e5"), "c3", "d4"), "Acd4");
        Due.isText("another one from this rank", Due.write(leapers("c3", "e3"), "c3", "d4"), "Acd4");
        Due.isText("one from this rank and one from elsewhere", Due.write(leapers("c3", "e3", "e5"), "c3", "d4"), "Acd4");
        Due.isText("another one from this file", Due.write(leapers("c3", "c5"), "c3", "d4"), "A3d4");
        Due.isText("one from this file, to other squares", Due.write(leapers("c3", "e5", "c1"), "c3", "d4"), "Acd4");
    }

    private static void rankUnlessOneShares() {
        Due.sentence("otherwise its rank, if none of them comes from this rank");
        Due.isText("one from this file", Due.write(leapers("c3", "c4"), "c3", "d4"), "A3d4");
        Due.isText("two from this file", Due.write(leapers("c3", "c4", "c5"), "c3", "d4"), "A3d4");
        Due.isText("one from this file and one from elsewhere", Due.write(leapers("c3", "c5", "e4"), "c3", "d4"), "A3d4");
        Due.isText("one from this file and one from this rank", Due.write(leapers("c3", "c5", "d3"), "c3", "d4"), "Ac3d4");
        Due.isText("one from this rank, to other squares", Due.write(leapers("c3", "c5", "f3"), "c3", "d4"), "A3d4");
    }

    private static void bothFileFirst() {
        Due.sentence("otherwise both, the file first");
        Due.isText("one from this file, one from this rank", Due.write(leapers("c3", "c5", "e3"), "c3", "d4"), "Ac3d4");
        Due.isText("from the upper corner", Due.write(leapers("e5", "e4", "d5"), "e5", "d4"), "Ae5d4");
        Due.isText("the one that shares the file alone", Due.write(leapers("c3", "c5", "e3"), "c5", "d4"), "A5d4");
        Due.isText("the one that shares the rank alone", Due.write(leapers("c3", "c5", "e3"), "e3", "d4"), "Aed4");
    }

    private static void manyOthers() {
        Due.sentence("otherwise both, the file first");
        String[] around = {"c3", "d3", "e3", "c4", "e4", "c5", "d5", "e5"};
        String[] due = {"Ac3d4", "Ad3d4", "Ae3d4", "Ac4d4", "Ae4d4", "Ac5d4", "Ad5d4", "Ae5d4"};
        BoardNotation x = leapers(around);
        for (int k = 0; k < around.length; k++) {
            Due.isText("of eight around the square, that on " + around[k], Due.write(x, around[k], "d4"), due[k]);
        }
    }

    private static void captureSign() {
        Due.sentence("x (120), if it captures");
        BoardNotation x = leapers("c3");
        Due.isText("to an empty square", Due.write(x, "c3", "d4"), "Ad4");
        Due.put(x, "d4", 1, 1);
        Due.isText("to a piece of the other side", Due.write(x, "c3", "d4"), "Axd4");
        Due.is("its byte", x.byteAt(1), 120);
        Due.put(x, "e5", 1, 0);
        Due.isText("behind the file", Due.write(x, "c3", "d4"), "Acxd4");
        Due.isText("beside it", Due.write(x, "c3", "c4"), "Ac4");
        Due.put(x, "d4", 0, 1);
        Due.isText("of a royal piece", Due.write(x, "c3", "d4"), "Acxd4");
    }

    /** King h8, which the rook a7 keeps from the rank 7; the rook b1 can check on the rank 8 or in the file h. */
    private static BoardNotation corner() {
        BoardNotation x = Due.chess();
        Due.put(x, "h8", 0, 1);
        Due.put(x, "a7", 1, 0);
        Due.put(x, "b1", 1, 0);
        return x;
    }

    private static void checkWithLegalMoves() {
        Due.sentence("then +(43), if the other side is in check behind it and has legal moves");
        BoardNotation x = corner();
        Due.isText("a check with one legal move", Due.write(x, "b1", "h1"), "Rh1+");
        Due.is("its byte", x.byteAt(3), 43);
        Due.play(x, "b1", "h1");
        Due.is("the legal moves", x.state(2), 1);
        x.clear();
        Due.put(x, "g7", 3, 1);
        Due.isText("the own piece stands in the king's way", Due.write(x, "b1", "b8"), "Rb8+");
        Due.play(x, "b1", "b8");
        Due.is("the legal moves", x.state(2), 1);
        x.clear();
        Due.put(x, "g7", -1, 1);
        Due.put(x, "c2", 1, 1);
        Due.isText("another piece goes between", Due.write(x, "b1", "b8"), "Rb8+");
        Due.play(x, "b1", "b8");
        Due.is("the legal moves", x.state(2), 1);
        Due.is("the one that goes between", Due.reason(x, "c2", "c8"), 0);
    }

    private static void checkWithoutLegalMoves() {
        Due.sentence("or # (35), if it is in check and has none");
        BoardNotation x = corner();
        Due.isText("a check with no legal move", Due.write(x, "b1", "b8"), "Rb8#");
        Due.is("its byte", x.byteAt(3), 35);
        Due.play(x, "b1", "b8");
        Due.is("the legal moves", x.state(2), 0);
        Due.is("the check", x.state(1), 1);
        x.clear();
        Due.put(x, "c3", 3, 1);
        Due.isText("another piece with moves that do not help", Due.write(x, "b1", "b8"), "Rb8#");
    }

    private static void signsOfSideOne() {
        Due.sentence("then +(43), if the other side is in check behind it and has legal moves, or # (35), if it is in check"
                + " and has none");
        BoardNotation x = Due.chess();
        Due.put(x, "a1", 0, 0);
        Due.put(x, "d4", 3, 0);
        Due.put(x, "h2", 1, 1);
        Due.put(x, "g8", 1, 1);
        Due.isText("side 0 gives no check", Due.write(x, "d4", "d5"), "Pd5");
        Due.play(x, "d4", "d5");
        Due.isText("a check with one legal move", Due.write(x, "g8", "a8"), "Ra8+");
        Due.is("read() of it", x.read(), 0);
        Due.is("read() without +", Due.read(x, "Ra8"), 7);
        Due.is("read() with #", Due.read(x, "Ra8#"), 7);
        Due.isText("a check with no legal move", Due.write(x, "g8", "g1"), "Rg1#");
        Due.is("read() of it", x.read(), 0);
        Due.is("read() with +", Due.read(x, "Rg1+"), 7);
        Due.isText("no check", Due.write(x, "g8", "f8"), "Rf8");
        Due.play(x, "g8", "g1");
        Due.is("the legal moves", x.state(2), 0);
        Due.isText("the game", Due.writeGame(x), "Pd5 Rg1#");
        Due.is("readGame()", x.readGame(), 0);
    }

    private static void noCheck() {
        Due.sentence("if the other side is in check behind it");
        BoardNotation x = corner();
        Due.isText("no check, one legal move", Due.write(x, "b1", "f1"), "Rf1");
        Due.isText("no check, no legal move", Due.write(x, "b1", "g1"), "Rg1");
        Due.play(x, "b1", "g1");
        Due.is("the legal moves", x.state(2), 0);
        x.clear();
        Due.put(x, "h8", -1, 1);
        Due.isText("no royal piece", Due.write(x, "b1", "b8"), "Rb8");
        Due.put(x, "b8", 0, 1);
        Due.isText("the royal piece is captured", Due.write(x, "b1", "b8"), "Rxb8");
        Due.put(x, "d8", 0, 1);
        Due.put(x, "a7", -1, 0);
        Due.isText("one of two royal pieces is captured, the other one is reached", Due.write(x, "b1", "b8"), "Rxb8+");
        BoardNotation y = Due.chess();
        Due.put(y, "a1", 0, 0);
        Due.put(y, "a8", 1, 1);
        Due.put(y, "e5", 0, 1);
        Due.isText("the own side leaves its check", Due.write(y, "a1", "b1"), "Kb1");
    }

    private static void longestForm() {
        Due.sentence("A move is written: the letter of its kind; what makes it unlike; x (120), if it captures; the file"
                + " and the rank of the square to which it goes");
        BoardNotation x = Boards.crowd();
        int[] move = Boards.longestMoves().get(0);
        Due.is("write() of a move with all its parts", x.write(move[0], move[1]), 7);
        Due.isText("its text", Due.tape(x), Boards.longestForm(move[0], move[1]));
        Due.is("read() of it", x.read(), 0);
        Due.is("found(1)", x.found(1), move[0]);
        Due.is("found(2)", x.found(2), move[1]);
        Due.isText("the shortest", Due.write(leapers("a1"), "a1", "b2"), "Ab2");
    }

    private static void writeInThePlaceOfAll() {
        Due.sentence("to the tape, in the place of all that was there");
        BoardNotation x = Boards.columns();
        Due.isText("behind nothing", Due.write(x, "a1", "a2"), "Ra2");
        Due.isText("behind a move", Due.write(x, "a1", "a3"), "Ra3");
        Due.feed(x, "?".repeat(1000));
        Due.isText("behind many bytes", Due.write(x, "a1", "a4"), "Ra4");
        Due.isThrown("byteAt(3)", Due.INDEX, () -> x.byteAt(3));
        BoardNotation y = Boards.columns();
        Due.feed(y, "?".repeat(2000));
        Due.is("behind a full tape", y.write(0, 56), 3);
        Due.is("feed() behind it", y.feed('+', -1, -1, -1), 4);
    }

    private static void writeAnswers() {
        Due.sentence("Returns the number of bytes.");
        BoardNotation x = leapers("c3", "c5", "e3");
        Due.is("no origin", x.write(18, 17), 3);
        Due.is("a file", x.write(20, 27), 4);
        Due.is("both", x.write(18, 27), 5);
        Due.put(x, "d4", 1, 1);
        Due.is("both and x", x.write(18, 27), 6);
        Due.is("all", Boards.crowd().write(9, 24), 7);
    }

    private static void writeNoSquare() {
        Due.sentence("Throws `IndexOutOfBoundsException` if there is no such square");
        BoardNotation x = Boards.columns();
        Due.feed(x, "old");
        Due.isRefused("write(-1, 8)", Due.INDEX, x, () -> x.write(-1, 8));
        Due.isRefused("write(64, 8)", Due.INDEX, x, () -> x.write(64, 8));
        Due.isRefused("write(0, -1)", Due.INDEX, x, () -> x.write(0, -1));
        Due.isRefused("write(0, 64)", Due.INDEX, x, () -> x.write(0, 64));
        for (int square : FAR) {
            Due.isRefused("write(" + square + ", 8)", Due.INDEX, x, () -> x.write(square, 8));
            Due.isRefused("write(0, " + square + ")", Due.INDEX, x, () -> x.write(0, square));
        }
        Due.is("write(0, 8)", x.write(0, 8), 3);
        x.play(0, 8);
        Due.is("write(63, 7)", x.write(63, 7), 3);
    }

    private static void writeWithReason() {
        Due.sentence("Throws `IllegalStateException` if reason() is not 0");
        BoardNotation x = Due.chess();
        Due.put(x, "a1", 0, 0);
        Due.put(x, "b8", 1, 1);
        Due.feed(x, "old");
        Due.isRefused("write() with reason 1, nothing there", Due.STATE, x, () -> x.write(7, 15));
        Due.isRefused("write() with reason 1, the other side", Due.STATE, x, () -> x.write(57, 49));
        Due.isRefused("write() with reason 2", Due.STATE, x, () -> x.write(0, 16));
        Due.isRefused("write() with reason 2, the same square", Due.STATE, x, () -> x.write(0, 0));
        Due.isRefused("write() with reason 3", Due.STATE, x, () -> x.write(0, 1));
        Due.isText("the tape", Due.tape(x), "old");
        Due.is("write() with reason 0", x.write(0, 8), 3);
    }

    private static void writePlaysNothing() {
        Due.sentence("Writes the short form of a move from the present node");
        BoardNotation x = Boards.line(199);
        Due.is("write() with 200 nodes", x.write(55, 7), 3);
        Due.is("the present node", x.state(3), 199);
        Due.is("the nodes", x.state(4), 200);
        x.goTo(198);
        Due.is("write() of the other side at the node above", x.write(8, 16), 3);
        Due.is("at(8)", x.at(8), 0);
    }
}
