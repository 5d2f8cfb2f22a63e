/** What 'Terms' says of exceptions: a refused call changes nothing, and the exception that is named first is thrown. */
public final class RefusalBoundaryTest {
    public static void main(String[] args) {
        refusedKindsAndSteps();
        refusedKindLeavesItsLetterFree();
        refusedPutsAndMoves();
        refusedOnTheTape();
        refusedFeedTakesNoPart();
        refusedInTheGame();
        refusedAtTheLimit();
        firstOfAddKind();
        firstOfAddStep();
        firstOfPut();
        firstOfPlay();
        firstOfFeed();
        firstOfWrite();
        Due.end();
    }

    /** The columns in the middle of a game: at node 2 of four, with a tape, and found() of a read(). */
    private static BoardNotation game() {
        BoardNotation x = Boards.line(2);
        x.play(8, 16);
        x.goTo(0);
        x.play(0, 24);
        x.goTo(2);
        Due.read(x, "Ra8");
        Due.feed(x, "?");
        return x;
    }

    private static void refusedKindsAndSteps() {
        Due.sentence("A method that throws an exception changes nothing.");
        BoardNotation x = game();
        Due.isRefused("addKind('R')", Due.ARGUMENT, x, () -> x.addKind('R'));
        Due.isRefused("addKind(64)", Due.ARGUMENT, x, () -> x.addKind(64));
        Due.isRefused("addKind('A')", Due.STATE, x, () -> x.addKind('A'));
        Due.isRefused("addStep(1, 1, 0, 1)", Due.INDEX, x, () -> x.addStep(1, 1, 0, 1));
        Due.isRefused("addStep(0, 4, 0, 1)", Due.ARGUMENT, x, () -> x.addStep(0, 4, 0, 1));
        Due.isRefused("addStep(0, 1, 0, 1)", Due.STATE, x, () -> x.addStep(0, 1, 0, 1));
        x.clear();
        Due.is("the next kind", x.addKind('A'), 1);
        Due.is("the next step", x.addStep(0, 0, 2, 1), 3);
        Due.is("a step that was refused", x.reason(0, 1), 2);
        Due.is("the first step of the new kind", x.addStep(1, 1, 0, 1), 1);
    }

    private static void refusedKindLeavesItsLetterFree() {
        Due.sentence("A method that throws an exception changes nothing.");
        BoardNotation x = game();
        Due.isRefused("addKind('A')", Due.STATE, x, () -> x.addKind('A'));
        Due.is("read() of its letter", Due.read(x, "Aa1"), 2);
        x.clear();
        Due.is("addKind('A') behind clear()", x.addKind('A'), 1);
    }

    private static void refusedPutsAndMoves() {
        Due.sentence("A method that throws an exception changes nothing.");
        BoardNotation x = game();
        Due.isRefused("put(64, 0, 0)", Due.INDEX, x, () -> x.put(64, 0, 0));
        Due.isRefused("put(5, 1, 0)", Due.INDEX, x, () -> x.put(5, 1, 0));
        Due.isRefused("put(5, 0, 2)", Due.ARGUMENT, x, () -> x.put(5, 0, 2));
        Due.isRefused("put(5, 0, 1)", Due.STATE, x, () -> x.put(5, 0, 1));
        Due.isRefused("put(8, -1, 1)", Due.STATE, x, () -> x.put(8, -1, 1));
        Due.isRefused("at(64)", Due.INDEX, x, () -> x.at(64));
        Due.isRefused("state(7)", Due.INDEX, x, () -> x.state(7));
        Due.isRefused("reason(8, 64)", Due.INDEX, x, () -> x.reason(8, 64));
        Due.isRefused("play(8, 64)", Due.INDEX, x, () -> x.play(8, 64));
        Due.isRefused("play(8, 9)", Due.STATE, x, () -> x.play(8, 9));
        Due.isRefused("play(55, 47)", Due.STATE, x, () -> x.play(55, 47));
        x.goTo(0);
        Due.is("at(5) of the first position", x.at(5), -1);
        Due.is("at(0) of the first position", x.at(0), 0);
        Due.is("at(63) of the first position", x.at(63), 1);
    }

    private static void refusedOnTheTape() {
        Due.sentence("A method that throws an exception changes nothing.");
        BoardNotation x = game();
        Due.isRefused("feed(65, 66, 67, 256)", Due.ARGUMENT, x, () -> x.feed(65, 66, 67, 256));
        Due.isRefused("feed(-1, 66, 67, 68)", Due.ARGUMENT, x, () -> x.feed(-1, 66, 67, 68));
        Due.isRefused("write(64, 8)", Due.INDEX, x, () -> x.write(64, 8));
        Due.isRefused("write(8, 9)", Due.STATE, x, () -> x.write(8, 9));
        Due.isRefused("write(0, 8)", Due.STATE, x, () -> x.write(0, 8));
        Due.isRefused("write(55, 47)", Due.STATE, x, () -> x.write(55, 47));
        Due.isRefused("byteAt(4)", Due.INDEX, x, () -> x.byteAt(4));
        Due.isRefused("found(3)", Due.INDEX, x, () -> x.found(3));
        Due.isText("the tape", Due.tape(x), "Ra8?");
    }

    private static void refusedFeedTakesNoPart() {
        Due.sentence("A method that throws an exception changes nothing.");
        BoardNotation x = new BoardNotation();
        Due.feed(x, "?".repeat(1998));
        Due.isThrown("feed() of three into 1998", Due.STATE, () -> x.feed(65, 66, 67, -1));
        Due.is("the bytes", x.state(6), 1998);
        Due.isThrown("byteAt(1998)", Due.INDEX, () -> x.byteAt(1998));
        Due.is("feed() of two", x.feed(68, 69, -1, -1), 2000);
        Due.is("byteAt(1998)", x.byteAt(1998), 68);
    }

    private static void refusedInTheGame() {
        Due.sentence("A method that throws an exception changes nothing.");
        BoardNotation x = game();
        Due.isRefused("node(5, 0)", Due.INDEX, x, () -> x.node(5, 0));
        Due.isRefused("node(0, 5)", Due.INDEX, x, () -> x.node(0, 5));
        Due.isRefused("continuation(0, 2)", Due.INDEX, x, () -> x.continuation(0, 2));
        Due.isRefused("continuation(5, 0)", Due.INDEX, x, () -> x.continuation(5, 0));
        Due.isRefused("goTo(5)", Due.INDEX, x, () -> x.goTo(5));
        Due.isRefused("goTo(-1)", Due.INDEX, x, () -> x.goTo(-1));
        Due.isRefused("promote(5)", Due.INDEX, x, () -> x.promote(5));
        Due.isRefused("promote(0)", Due.INDEX, x, () -> x.promote(0));
        Due.is("the present node", x.state(3), 2);
        Due.isText("the game", Due.writeGame(x), "Ra2 (Ra4) Rh7 Ra3");
    }

    private static void refusedAtTheLimit() {
        Due.sentence("A method that throws an exception changes nothing.");
        BoardNotation x = Boards.line(199);
        Due.isRefused("play() of one node too many", Due.STATE, x, () -> x.play(55, 63));
        Due.is("the square from which it would come", x.at(55), 1);
        Due.is("the square to which it would go", x.at(63), -1);
        Due.is("the side", x.state(0), 1);
        x.goTo(198);
        Due.isRefused("play() of one node too many beside the last", Due.STATE, x, () -> x.play(8, 16));
        Due.is("the old move", x.play(8, 0), 199);
    }

    private static void firstOfAddKind() {
        Due.sentence("If several exceptions apply, the one that is named first is thrown.");
        BoardNotation x = new BoardNotation();
        for (int kind = 0; kind < 6; kind++) {
            x.addKind('A' + kind);
        }
        Due.isRefused("addKind(64) with 6 kinds", Due.ARGUMENT, x, () -> x.addKind(64));
        Due.isRefused("addKind('F') with 6 kinds, one of which has it", Due.ARGUMENT, x, () -> x.addKind('F'));
        Due.isRefused("addKind('G') with 6 kinds", Due.STATE, x, () -> x.addKind('G'));
        BoardNotation y = game();
        Due.isRefused("addKind(91) with other nodes", Due.ARGUMENT, y, () -> y.addKind(91));
        Due.isRefused("addKind('R') with other nodes", Due.ARGUMENT, y, () -> y.addKind('R'));
        Due.isRefused("addKind('S') with other nodes", Due.STATE, y, () -> y.addKind('S'));
    }

    private static void firstOfAddStep() {
        Due.sentence("If several exceptions apply, the one that is named first is thrown.");
        BoardNotation x = new BoardNotation();
        Due.isRefused("addStep(0, 0, 0, 0) without kinds", Due.INDEX, x, () -> x.addStep(0, 0, 0, 0));
        x.addKind('A');
        for (int step = 0; step < 8; step++) {
            x.addStep(0, 1, 0, 1);
        }
        Due.isRefused("addStep(0, 4, 0, 1) with 8 steps", Due.ARGUMENT, x, () -> x.addStep(0, 4, 0, 1));
        Due.isRefused("addStep(0, 0, -4, 1) with 8 steps", Due.ARGUMENT, x, () -> x.addStep(0, 0, -4, 1));
        Due.isRefused("addStep(0, 0, 0, 1) with 8 steps", Due.ARGUMENT, x, () -> x.addStep(0, 0, 0, 1));
        Due.isRefused("addStep(0, 1, 0, 8) with 8 steps", Due.ARGUMENT, x, () -> x.addStep(0, 1, 0, 8));
        Due.isRefused("addStep(1, 1, 0, 8) with 8 steps", Due.INDEX, x, () -> x.addStep(1, 1, 0, 8));
        BoardNotation y = game();
        Due.isRefused("addStep(1, 1, 0, 1) with other nodes", Due.INDEX, y, () -> y.addStep(1, 1, 0, 1));
        Due.isRefused("addStep(-1, 4, 0, 1) with other nodes", Due.INDEX, y, () -> y.addStep(-1, 4, 0, 1));
        Due.isRefused("addStep(0, 4, 0, 1) with other nodes", Due.ARGUMENT, y, () -> y.addStep(0, 4, 0, 1));
        Due.isRefused("addStep(0, 1, 0, 0) with other nodes", Due.ARGUMENT, y, () -> y.addStep(0, 1, 0, 0));
    }

    private static void firstOfPut() {
        Due.sentence("If several exceptions apply, the one that is named first is thrown.");
        BoardNotation x = Boards.columns();
        Due.isRefused("put(64, 0, 2)", Due.INDEX, x, () -> x.put(64, 0, 2));
        Due.isRefused("put(0, 1, 2)", Due.INDEX, x, () -> x.put(0, 1, 2));
        Due.isRefused("put(0, -2, 2)", Due.INDEX, x, () -> x.put(0, -2, 2));
        Due.isRefused("put(-1, -1, -1)", Due.INDEX, x, () -> x.put(-1, -1, -1));
        BoardNotation y = game();
        Due.isRefused("put(64, 0, 0) with other nodes", Due.INDEX, y, () -> y.put(64, 0, 0));
        Due.isRefused("put(0, 1, 0) with other nodes", Due.INDEX, y, () -> y.put(0, 1, 0));
        Due.isRefused("put(0, 0, 2) with other nodes", Due.ARGUMENT, y, () -> y.put(0, 0, 2));
        Due.isRefused("put(0, -1, 2) with other nodes", Due.ARGUMENT, y, () -> y.put(0, -1, 2));
        Due.isRefused("put(64, 1, 2) with other nodes", Due.INDEX, y, () -> y.put(64, 1, 2));
    }

    private static void firstOfPlay() {
        Due.sentence("If several exceptions apply, the one that is named first is thrown.");
        BoardNotation x = Boards.line(199);
        Due.isRefused("play(55, 64) with 200 nodes", Due.INDEX, x, () -> x.play(55, 64));
        Due.isRefused("play(-1, 63) with 200 nodes", Due.INDEX, x, () -> x.play(-1, 63));
        Due.isRefused("play(1, 64) of an empty square", Due.INDEX, x, () -> x.play(1, 64));
        Due.isRefused("play(1, 2) with 200 nodes", Due.STATE, x, () -> x.play(1, 2));
    }

    private static void firstOfFeed() {
        Due.sentence("If several exceptions apply, the one that is named first is thrown.");
        BoardNotation x = new BoardNotation();
        Due.feed(x, "?".repeat(1900));
        for (int k = 0; k < 25; k++) {
            x.feed(1, 2, 3, 4);
        }
        Due.isThrown("feed(256, -1, -1, -1) into a full tape", Due.ARGUMENT, () -> x.feed(256, -1, -1, -1));
        Due.isThrown("feed(-1, -1, -1, -1) into a full tape", Due.ARGUMENT, () -> x.feed(-1, -1, -1, -1));
        Due.isThrown("feed(1, 1, 1, -2) into a full tape", Due.ARGUMENT, () -> x.feed(1, 1, 1, -2));
        Due.isThrown("feed(1, -1, -1, -1) into a full tape", Due.STATE, () -> x.feed(1, -1, -1, -1));
        Due.is("the bytes", x.state(6), 2000);
    }

    private static void firstOfWrite() {
        Due.sentence("If several exceptions apply, the one that is named first is thrown.");
        BoardNotation x = game();
        Due.isRefused("write(1, 64) of an empty square", Due.INDEX, x, () -> x.write(1, 64));
        Due.isRefused("write(-1, 8)", Due.INDEX, x, () -> x.write(-1, 8));
        Due.isRefused("write(55, 64) of the other side", Due.INDEX, x, () -> x.write(55, 64));
        Due.isRefused("write(1, 2)", Due.STATE, x, () -> x.write(1, 2));
    }
}
