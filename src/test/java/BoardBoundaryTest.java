/**
 * The boundary cases of 'What it is' and of the terms Board, Kinds and Moves: each method is the test of
 * the sentence that it quotes.
 */
public final class BoardBoundaryTest {
    private static final int SQUARES = 64;

    public static void main(String[] args) {
        lastCalls();
        squaresOfTargets();
        squaresOfOrigins();
        bytesBesideFilesAndRanks();
        emptyOrOfASide();
        sideThatMovesFirst();
        numbersOfKinds();
        lettersAndStepsOfKinds();
        widthsOfSteps();
        reaches();
        stepsOfSideOne();
        royalKind();
        timesUpToReach();
        emptyBetween();
        onTheBoard();
        noPieceOfItsOwnSide();
        captured();
        capturedAgainAndAgain();
        legalBesideAttackedSquares();
        legalBehindTheMove();
        legalWithManyOrNoRoyals();
        check();
        checkOfSeveralRoyals();
        Due.end();
    }

    /** Kind 0 with one step. */
    private static BoardNotation stepping(int dx, int dy, int reach) {
        BoardNotation x = new BoardNotation();
        x.addKind('A');
        x.addStep(0, dx, dy, reach);
        return x;
    }

    private interface Last {
        double answer(BoardNotation x);
    }

    private static void lastCalls() {
        Due.sentence("An object is used for at most 512 calls after it has been made");
        lastCall("addKind(90)", 1, x -> x.addKind('Z'));
        lastCall("addStep(0, 1, 0, 1)", 3, x -> x.addStep(0, 1, 0, 1));
        lastCall("put(1, 0, 0)", -1, x -> x.put(1, 0, 0));
        lastCall("at(63)", 1, x -> x.at(63));
        lastCall("state(2)", 7, x -> x.state(2));
        lastCall("reason(0, 8)", 0, x -> x.reason(0, 8));
        lastCall("play(0, 8)", 1, x -> x.play(0, 8));
        lastCall("feed(1, 2, 3, 4)", 7, x -> x.feed(1, 2, 3, 4));
        lastCall("empty()", 3, x -> x.empty());
        lastCall("read()", 0, x -> x.read());
        lastCall("found(0)", -1, x -> x.found(0));
        lastCall("write(0, 8)", 3, x -> x.write(0, 8));
        lastCall("byteAt(2)", '2', x -> x.byteAt(2));
        lastCall("node(0, 0)", -1, x -> x.node(0, 0));
        lastCall("goTo(0)", 0, x -> x.goTo(0));
        lastCall("writeGame()", 0, x -> x.writeGame());
        lastCall("readGame()", 0, x -> x.readGame());
        lastCall("clear()", 1, x -> x.clear());
        lastCall("branching()", 0, x -> x.branching());
        BoardNotation x = Boards.line(199);
        for (int calls = 5 + 199; calls < 510; calls++) {
            x.state(3);
        }
        Due.is("goTo(198) as the 511th call", x.goTo(198), 0);
        Due.is("node(199, 3) as the 512th call", x.node(199, 3), 199);
    }

    /** The 511th and the 512th call of an object. */
    private static void lastCall(String call, double want, Last last) {
        for (int number = 511; number <= 512; number++) {
            BoardNotation x = Boards.columns();
            Due.feed(x, "Ra2");
            for (int calls = 5 + 1; calls < number - 1; calls++) {
                x.state(6);
            }
            Due.is(call + " as call " + number, last.answer(x), want);
        }
    }

    private static void squaresOfTargets() {
        Due.sentence("square k has the file k % 8 (a to h, the bytes 97 to 104)"
                + " and the rank k / 8 (1 to 8, the bytes 49 to 56)");
        for (int k = 0; k < SQUARES; k++) {
            BoardNotation x = stepping(1, 0, 1);
            x.addStep(0, -1, 0, 1);
            int from = k % 8 == 0 ? k + 1 : k - 1;
            x.put(from, 0, 0);
            Due.is("write() to " + k, x.write(from, k), 3);
            Due.is("the file of " + k, x.byteAt(1), 97 + k % 8);
            Due.is("the rank of " + k, x.byteAt(2), 49 + k / 8);
            Due.is("read() of a move to " + k, x.read(), 0);
            Due.is("found(1)", x.found(1), from);
            Due.is("found(2)", x.found(2), k);
        }
    }

    /** Two pieces beside the target in a rank or a file, so that the file or the rank tells them apart. */
    private static void squaresOfOrigins() {
        Due.sentence("square k has the file k % 8 (a to h, the bytes 97 to 104)"
                + " and the rank k / 8 (1 to 8, the bytes 49 to 56)");
        for (int k = 0; k < SQUARES; k++) {
            int beside = k % 8 < 6 ? k + 1 : k - 1;
            originIs(k, beside, 2 * beside - k, 97 + k % 8, 1, 0);
            int ahead = k / 8 < 6 ? k + 8 : k - 8;
            originIs(k, ahead, 2 * ahead - k, 49 + k / 8, 0, 1);
        }
    }

    private static void originIs(int from, int to, int other, int due, int dx, int dy) {
        BoardNotation x = stepping(dx, dy, 1);
        x.addStep(0, -dx, -dy, 1);
        x.put(from, 0, 0);
        x.put(other, 0, 0);
        Due.is("write(" + from + ", " + to + ")", x.write(from, to), 4);
        Due.is("the byte that tells " + from + " from " + other, x.byteAt(1), due);
        Due.is("read() of it", x.read(), 0);
        Due.is("found(1)", x.found(1), from);
        Due.is("found(2)", x.found(2), to);
    }

    private static void bytesBesideFilesAndRanks() {
        Due.sentence("square k has the file k % 8 (a to h, the bytes 97 to 104)"
                + " and the rank k / 8 (1 to 8, the bytes 49 to 56)");
        int[][] texts = {{96, 49, 1}, {105, 49, 1}, {97, 48, 2}, {97, 57, 2}, {104, 48, 2}, {104, 57, 2}};
        for (int[] text : texts) {
            BoardNotation x = stepping(1, 0, 1);
            x.feed('A', text[0], text[1], -1);
            Due.is("read() of the bytes " + text[0] + " " + text[1], x.read(), 1);
            Due.is("found(0)", x.found(0), text[2]);
        }
    }

    private static void emptyOrOfASide() {
        Due.sentence("A square is empty, or has a piece of the side 0 or 1.");
        BoardNotation x = stepping(1, 0, 1);
        Due.is("empty", x.at(63), -1);
        x.put(63, 0, 0);
        Due.is("side 0", x.at(63), 0);
        x.put(63, 0, 1);
        Due.is("side 1", x.at(63), 1);
        Due.is("the square beside it", x.at(62), -1);
    }

    private static void sideThatMovesFirst() {
        Due.sentence("The side 0 moves first.");
        BoardNotation x = Boards.columns();
        Due.is("state(0) at node 0", x.state(0), 0);
        Due.is("side 1 ahead of the first move", x.reason(63, 55), 1);
        Due.is("side 0 ahead of the first move", x.reason(0, 8), 0);
        x.play(0, 8);
        Due.is("state(0) at node 1", x.state(0), 1);
        Due.is("side 1 behind the first move", x.reason(63, 55), 0);
        Due.is("side 0 behind the first move", x.reason(8, 16), 1);
        x.play(63, 55);
        Due.is("state(0) at node 2", x.state(0), 0);
        BoardNotation y = stepping(1, 0, 1);
        y.put(0, 0, 1);
        Due.is("state(0) with pieces of side 1 alone", y.state(0), 0);
        Due.is("its moves", y.state(2), 0);
    }

    private static void numbersOfKinds() {
        Due.sentence("There are at most 6 kinds of pieces, numbered from 0 in the order of their creation.");
        BoardNotation x = new BoardNotation();
        String letters = "ZAYBXC";
        for (int kind = 0; kind < 6; kind++) {
            Due.is("the kinds ahead", x.state(5), kind);
            x.addKind(letters.charAt(kind));
            x.addStep(kind, 1, 0, 1);
            x.put(8 * kind, kind, 0);
        }
        Due.isRefused("addKind() of a seventh", Due.STATE, x, () -> x.addKind('D'));
        for (int kind = 0; kind < 6; kind++) {
            Due.is("the kind on " + 8 * kind, x.at(8 * kind), 2 * kind);
            x.write(8 * kind, 8 * kind + 1);
            Due.is("the letter of kind " + kind, x.byteAt(0), letters.charAt(kind));
            Due.is("read() of kind " + kind, x.read(), 0);
            Due.is("found(1)", x.found(1), 8 * kind);
        }
    }

    private static void lettersAndStepsOfKinds() {
        Due.sentence("A kind has a letter, 65 to 90 (a byte; no two kinds have the same), and at most 8 steps");
        BoardNotation x = new BoardNotation();
        for (int kind = 0; kind < 6; kind++) {
            int letter = kind % 2 == 0 ? 65 + kind : 91 - kind;
            x.addKind(letter);
            Due.isThrown("addKind(" + letter + ") again", Due.ARGUMENT, () -> x.addKind(letter));
            int last = kind;
            for (int step = 0; step < 8; step++) {
                Due.is("the steps of kind " + kind, x.addStep(kind, step % 4, 1 - step / 4 * 2, 1), step + 1);
            }
            Due.isThrown("a ninth step of kind " + kind, Due.STATE, () -> x.addStep(last, -1, 1, 1));
        }
        for (int kind = 0; kind < 6; kind++) {
            x.put(27, kind, 0);
            Due.is("the moves of kind " + kind, x.state(2), 8);
            x.write(27, 27 + 8);
            Due.is("the letter of kind " + kind, x.byteAt(0), kind % 2 == 0 ? 65 + kind : 91 - kind);
        }
    }

    private static void widthsOfSteps() {
        Due.sentence("a step is (dx, dy), each -3 to 3, not both 0, and a reach, 1 to 7");
        for (int dx = -3; dx <= 3; dx++) {
            for (int dy = -3; dy <= 3; dy++) {
                if (dx != 0 || dy != 0) {
                    BoardNotation x = stepping(dx, dy, 1);
                    x.put(27, 0, 0);
                    int to = 27 + dx + 8 * dy;
                    Due.is("the moves of (" + dx + ", " + dy + ")", x.state(2), 1);
                    Due.is("the move of (" + dx + ", " + dy + ")", x.reason(27, to), 0);
                }
            }
        }
    }

    private static void reaches() {
        Due.sentence("a step is (dx, dy), each -3 to 3, not both 0, and a reach, 1 to 7");
        for (int reach = 1; reach <= 7; reach++) {
            BoardNotation x = stepping(0, 1, reach);
            x.put(0, 0, 0);
            Due.is("the moves of reach " + reach, x.state(2), reach);
        }
    }

    private static void stepsOfSideOne() {
        Due.sentence("A piece of the side 1 has its steps with -dy in the place of dy.");
        for (int dx = -3; dx <= 3; dx++) {
            for (int dy = -3; dy <= 3; dy++) {
                if (dx != 0 || dy != 0) {
                    BoardNotation x = stepping(dx, dy, 1);
                    x.addKind('W');
                    x.addStep(1, -1, 0, 1);
                    x.put(27, 0, 1);
                    x.put(63, 1, 0);
                    x.play(63, 62);
                    String step = "(" + dx + ", " + dy + ") of side 1";
                    Due.is("the moves of " + step, x.state(2), 1);
                    Due.is("the move of " + step, x.reason(27, 27 + dx - 8 * dy), 0);
                    Due.is("the move up of " + step, x.reason(27, 27 + dx + 8 * dy), dy == 0 ? 0 : 2);
                }
            }
        }
        BoardNotation x = stepping(1, 1, 1);
        x.put(27, 0, 0);
        x.put(18, 0, 1);
        Due.is("side 1 does not check from below", x.state(1), 0);
        x.put(34, 0, 1);
        Due.is("side 1 checks from above", x.state(1), 1);
    }

    private static void royalKind() {
        Due.sentence("Kind 0 is the royal one.");
        for (int kind = 0; kind < 6; kind++) {
            BoardNotation x = new BoardNotation();
            for (int k = 0; k < 6; k++) {
                x.addKind('A' + k);
                x.addStep(k, 1, 0, 1);
            }
            x.put(0, 5, 1);
            x.put(1, kind, 0);
            x.put(9, 1, 0);
            Due.is("in check if kind " + kind + " is reached", x.state(1), kind == 0 ? 1 : 0);
            Due.is("reason() of leaving kind " + kind, x.reason(9, 10), kind == 0 ? 3 : 0);
        }
    }

    private static void timesUpToReach() {
        Due.sentence("it is so many times one of its steps away, from once up to its reach");
        for (int reach = 1; reach <= 7; reach++) {
            BoardNotation x = stepping(1, 0, reach);
            x.put(0, 0, 0);
            for (int times = 0; times <= 7; times++) {
                Due.is(times + " times of reach " + reach, x.reason(0, times), times >= 1 && times <= reach ? 0 : 2);
            }
            Due.is("the square behind the rank", x.reason(0, 8), 2);
        }
        BoardNotation y = stepping(3, 1, 2);
        y.put(0, 0, 0);
        Due.is("once (3, 1)", y.reason(0, 11), 0);
        Due.is("twice (3, 1)", y.reason(0, 22), 0);
        Due.is("between (3, 1) and twice of it", y.reason(0, 12), 2);
        Due.is("a part of (3, 1)", y.reason(0, 1), 2);
    }

    private static void emptyBetween() {
        Due.sentence("all squares at which it would stand between are empty");
        for (int side = 0; side <= 1; side++) {
            for (int there = 1; there <= 7; there++) {
                BoardNotation x = stepping(1, 0, 7);
                x.addKind('B');
                x.put(0, 0, 0);
                x.put(there, 1, side);
                for (int to = 1; to <= 7; to++) {
                    boolean reached = to < there || (to == there && side == 1);
                    Due.is("to " + to + " with side " + side + " on " + there, x.reason(0, to), reached ? 0 : 2);
                }
            }
        }
        BoardNotation y = stepping(2, 0, 3);
        y.addKind('B');
        y.put(0, 0, 0);
        y.put(1, 1, 0);
        y.put(3, 1, 1);
        y.put(5, 1, 0);
        Due.is("over squares at which it would not stand", y.reason(0, 6), 0);
        y.put(2, 1, 1);
        Due.is("the first square at which it would stand", y.reason(0, 2), 0);
        Due.is("behind the first square at which it would stand", y.reason(0, 4), 2);
    }

    /** Each step from each square: off the board there is nothing, on no side of it. */
    private static void onTheBoard() {
        Due.sentence("the square is on the board");
        for (int dx = -3; dx <= 3; dx++) {
            for (int dy = -3; dy <= 3; dy++) {
                if (dx != 0 || dy != 0) {
                    BoardNotation x = stepping(dx, dy, 1);
                    for (int from = 0; from < SQUARES; from++) {
                        int file = from % 8 + dx;
                        int rank = from / 8 + dy;
                        boolean on = file >= 0 && file < 8 && rank >= 0 && rank < 8;
                        x.put(from, 0, 0);
                        Due.is("moves of (" + dx + ", " + dy + ") from " + from, x.state(2), on ? 1 : 0);
                        x.put(from, -1, 0);
                    }
                }
            }
        }
        BoardNotation y = stepping(3, 0, 7);
        y.put(1, 0, 0);
        Due.is("twice on the board, three times not", y.state(2), 2);
        BoardNotation z = stepping(-1, -1, 7);
        z.put(63, 0, 0);
        Due.is("from h8 to a1", z.reason(63, 0), 0);
        Due.is("moves from h8 to a1", z.state(2), 7);
    }

    private static void noPieceOfItsOwnSide() {
        Due.sentence("and has no piece of its own side");
        BoardNotation x = stepping(1, 0, 1);
        x.put(0, 0, 0);
        Due.is("empty", x.reason(0, 1), 0);
        x.put(1, 0, 0);
        Due.is("own side", x.reason(0, 1), 2);
        x.put(1, 0, 1);
        Due.is("other side", x.reason(0, 1), 0);
        BoardNotation y = stepping(1, 0, 1);
        y.put(0, 0, 1);
        y.put(1, 0, 1);
        y.put(62, 0, 0);
        y.play(62, 63);
        Due.is("own side of side 1", y.reason(0, 1), 2);
        Due.is("empty of side 1", y.reason(1, 2), 0);
    }

    private static void captured() {
        Due.sentence("a piece of the other side there is captured");
        BoardNotation x = Boards.columns();
        x.addKind('B');
        x.put(24, 1, 1);
        x.put(25, 1, 1);
        x.play(0, 24);
        Due.is("the square from which it comes", x.at(0), -1);
        Due.is("the square to which it goes", x.at(24), 0);
        Due.is("the piece beside it", x.at(25), 3);
        x.goTo(0);
        Due.is("at node 0 the piece stands", x.at(24), 3);
        Due.is("at node 0 the other one stands", x.at(0), 0);
        x.play(0, 16);
        Due.is("a move to an empty square captures nothing", x.at(24), 3);
    }

    /** Each move captures on b1, and each is taken back. */
    private static void capturedAgainAndAgain() {
        Due.sentence("a piece of the other side there is captured");
        BoardNotation x = new BoardNotation();
        for (int kind = 0; kind < 6; kind++) {
            x.addKind('A' + kind);
        }
        int[] from = {0, 2, 3, 4};
        for (int k = 0; k < from.length; k++) {
            x.addStep(k + 1, 1 - from[k], 0, 1);
            x.put(from[k], k + 1, k % 2);
        }
        x.put(1, 5, 1);
        int[] there = {11, 2, 5, 6, 9};
        for (int k = 0; k < from.length; k++) {
            Due.is("play() of capture " + k, x.play(from[k], 1), k + 1);
        }
        for (int node : new int[] {4, 3, 2, 1, 0, 4, 2, 3, 0, 1}) {
            x.goTo(node);
            Due.is("at(1) at node " + node, x.at(1), there[node]);
            for (int k = 0; k < from.length; k++) {
                Due.is("at(" + from[k] + ") at node " + node, x.at(from[k]), k < node ? -1 : there[k + 1]);
            }
        }
    }

    /** Rook e8 of side 1 looks down the e file. */
    private static BoardNotation watched() {
        BoardNotation x = Due.chess();
        Due.put(x, "e8", 1, 1);
        return x;
    }

    private static void legalBesideAttackedSquares() {
        Due.sentence("It is legal if no piece of the other side then reaches a square with a royal piece of the side"
                + " that moved.");
        BoardNotation x = watched();
        Due.put(x, "d1", 0, 0);
        Due.is("beside the file that is reached", Due.reason(x, "d1", "c1"), 0);
        Due.is("into the file that is reached", Due.reason(x, "d1", "e1"), 3);
        Due.put(x, "e4", 2, 1);
        Due.is("behind a piece that stands between", Due.reason(x, "d1", "e1"), 0);
        BoardNotation y = new BoardNotation();
        y.addKind('K');
        y.addStep(0, 1, 0, 1);
        y.addStep(0, -1, 0, 1);
        y.addKind('R');
        y.addStep(1, 0, 1, 3);
        y.put(2, 0, 0);
        y.put(1 + 3 * 8, 1, 1);
        Due.is("to a square that is reached three times", y.reason(2, 1), 3);
        y.put(1 + 3 * 8, -1, 0);
        y.put(1 + 4 * 8, 1, 1);
        Due.is("to a square one beyond the reach", y.reason(2, 1), 0);
    }

    private static void legalBehindTheMove() {
        Due.sentence("It is legal if no piece of the other side then reaches a square with a royal piece of the side"
                + " that moved.");
        BoardNotation x = watched();
        Due.put(x, "e3", 0, 0);
        Due.is("out of the file", Due.reason(x, "e3", "d3"), 0);
        Due.is("on in the file, to where its own square hid it", Due.reason(x, "e3", "e2"), 3);
        Due.put(x, "e5", 2, 0);
        Due.is("down behind the own knight", Due.reason(x, "e3", "e2"), 0);
        Due.is("the knight leaves the file", Due.reason(x, "e5", "c4"), 3);
        Due.put(x, "e5", 1, 0);
        Due.is("the own rook stays in the file", Due.reason(x, "e5", "e7"), 0);
        Due.is("the own rook captures the one that looks", Due.reason(x, "e5", "e8"), 0);
        Due.is("the own rook leaves the file", Due.reason(x, "e5", "d5"), 3);
        BoardNotation y = watched();
        Due.put(y, "e7", 0, 0);
        Due.is("the royal piece captures the one that reaches it", Due.reason(y, "e7", "e8"), 0);
        Due.put(y, "a8", 1, 1);
        Due.is("but not if another one reaches there then", Due.reason(y, "e7", "e8"), 3);
    }

    private static void legalWithManyOrNoRoyals() {
        Due.sentence("It is legal if no piece of the other side then reaches a square with a royal piece of the side"
                + " that moved.");
        BoardNotation x = watched();
        Due.put(x, "a2", 1, 0);
        Due.is("no royal piece", Due.reason(x, "a2", "a3"), 0);
        Due.put(x, "c1", 0, 0);
        Due.is("one that is not reached", Due.reason(x, "a2", "a3"), 0);
        Due.put(x, "e1", 0, 0);
        Due.is("a second one that is reached", Due.reason(x, "a2", "a3"), 3);
        Due.is("the first one leaves the second one there", Due.reason(x, "c1", "c2"), 3);
        Due.is("the second one goes away", Due.reason(x, "e1", "d1"), 0);
        Due.is("a piece goes between", Due.reason(x, "a2", "e2"), 0);
        Due.put(x, "e4", 0, 1);
        Due.put(x, "h4", 1, 0);
        Due.is("the other side's royal piece may be reached, and captured", Due.reason(x, "h4", "e4"), 0);
    }

    private static void check() {
        Due.sentence("A side is in check, if a piece of the other side reaches a square with a royal piece of it.");
        for (int reach = 1; reach <= 7; reach++) {
            for (int away = 1; away <= 7; away++) {
                BoardNotation x = stepping(1, 0, 1);
                x.addKind('R');
                x.addStep(1, 0, 1, reach);
                x.put(0, 0, 0);
                x.put(8 * away, 1, 1);
                Due.is("in check by reach " + reach + " from " + away, x.state(1), away <= reach ? 1 : 0);
            }
        }
        BoardNotation x = watched();
        Due.put(x, "e1", 0, 0);
        Due.is("reached", x.state(1), 1);
        Due.put(x, "e5", 3, 1);
        Due.is("a piece between", x.state(1), 0);
        Due.put(x, "e5", -1, 1);
        Due.put(x, "e8", 1, 0);
        Due.is("a piece of the own side", x.state(1), 0);
        Due.put(x, "e8", 1, 1);
        Due.put(x, "h8", 0, 1);
        Due.put(x, "a8", 1, 0);
        Due.is("by a piece that may not leave its rank", x.state(1), 1);
        Due.put(x, "e1", 1, 0);
        Due.is("no royal piece", x.state(1), 0);
        Due.put(x, "a8", 1, 0);
        Due.put(x, "e8", -1, 1);
        Due.is("the other side is in check, not the one whose turn it is", x.state(1), 0);
    }

    private static void checkOfSeveralRoyals() {
        Due.sentence("A side is in check, if a piece of the other side reaches a square with a royal piece of it.");
        for (String reached : new String[] {"a1", "d1", "h1"}) {
            BoardNotation x = Due.chess();
            for (String royal : new String[] {"a1", "d1", "h1"}) {
                Due.put(x, royal, 0, 0);
            }
            Due.is("none is reached", x.state(1), 0);
            Due.put(x, reached.charAt(0) + "8", 1, 1);
            Due.is("the one on " + reached + " is reached", x.state(1), 1);
        }
        BoardNotation x = Due.chess();
        Due.put(x, "e8", 0, 1);
        Due.put(x, "e1", 1, 0);
        Due.is("a royal piece of the other side is reached", x.state(1), 0);
        Due.put(x, "e1", 0, 0);
        Due.put(x, "e2", 0, 1);
        Due.is("a royal piece reaches it", x.state(1), 1);
    }
}
