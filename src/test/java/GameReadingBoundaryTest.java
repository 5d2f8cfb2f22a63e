/** The boundary cases of the term Reading a game and of promise 20 (readGame), sentence by sentence. */
public final class GameReadingBoundaryTest {
    public static void main(String[] args) {
        beginsAnew();
        beginsAnewWithoutOpenBrackets();
        nothingToRead();
        blanksAsManyAsItLikes();
        noBlankBesideABracket();
        wordsBetweenBlanks();
        otherBytesBelongToWords();
        wordsArePlayed();
        oldNodesArePlayed();
        openingGoesUp();
        closingGoesBack();
        closingThatBelongs();
        errorsOfWords();
        errorsOfWordsGoByTheirNode();
        openingAtNodeZero();
        closingWithoutOpening();
        bracketWhereAMoveHasToStand();
        endWithOpenBrackets();
        endBehindABracket();
        twoHundredNodes();
        oldNodesAtTheLimit();
        wordErrorsAheadOfErrorNine();
        firstErrorEndsIt();
        playedStays();
        tapeStays();
        lastPresentNode();
        manyOpenBrackets();
        fullTape();
        highestError();
        Due.end();
    }

    /** Reads the text on the columns; what it answers, the place of the error, the present node, the nodes. */
    private static BoardNotation gameIs(String text, int error, int place, int present, int nodes) {
        BoardNotation x = Boards.columns();
        gameIs(x, text, error, place, present, nodes);
        return x;
    }

    private static void gameIs(BoardNotation x, String text, int error, int place, int present, int nodes) {
        String shown = text.length() > 60 ? text.substring(0, 20) + ".." + text.substring(text.length() - 20) : text;
        Due.is("readGame() of \"" + shown + "\"", Due.readGame(x, text), error);
        Due.is("found(0) of \"" + shown + "\"", x.found(0), place);
        Due.is("the present node of \"" + shown + "\"", x.state(3), present);
        Due.is("the nodes of \"" + shown + "\"", x.state(4), nodes);
        Due.is("the bytes of \"" + shown + "\"", x.state(6), text.length());
    }

    private static void writtenIs(String text, String due) {
        BoardNotation x = Boards.columns();
        Due.is("readGame() of \"" + text + "\"", Due.readGame(x, text), 0);
        Due.isText("the game of \"" + text + "\"", Due.writeGame(x), due);
    }

    private static void beginsAnew() {
        Due.sentence("It begins anew at node 0, without other nodes.");
        BoardNotation x = Boards.line(3);
        gameIs(x, "Ra5", 0, -1, 1, 2);
        Due.is("node(1, 2)", x.node(1, 2), 32);
        Due.is("node(0, 4)", x.node(0, 4), 1);
        Due.is("node(1, 4)", x.node(1, 4), 0);
        Due.is("at(h8)", x.at(63), 1);
        BoardNotation y = Boards.line(199);
        gameIs(y, "", 0, -1, 0, 1);
        BoardNotation z = Boards.line(2);
        gameIs(z, "?", 1, 0, 0, 1);
        Due.is("at(a1) behind an error at the first byte", z.at(0), 0);
        BoardNotation q = Boards.line(199);
        gameIs(q, Boards.lineText(50), 0, -1, 50, 51);
    }

    private static void beginsAnewWithoutOpenBrackets() {
        Due.sentence("It begins anew at node 0, without other nodes.");
        for (String open : new String[] {"Ra2 (Ra3", "Ra2 (Ra3 (Ra4", "Ra2 (", "Ra2 (Ra3 ?", "Ra2 (()"}) {
            BoardNotation x = Boards.columns();
            Due.is("readGame() of \"" + open + "\"", Due.readGame(x, open), open.endsWith("?") ? 1 : 8);
            gameIs(x, "Ra2 Rh7", 0, -1, 2, 3);
            Due.readGame(x, open);
            gameIs(x, "Ra2 )", 8, 4, 1, 2);
            Due.readGame(x, open);
            gameIs(x, "Ra2 (Ra3))", 8, 9, 1, 3);
            Due.readGame(x, open);
            gameIs(x, "", 0, -1, 0, 1);
        }
    }

    private static void nothingToRead() {
        Due.sentence("A text is a row of words, ( and ), with blanks between, ahead and behind as many as it likes");
        gameIs("", 0, -1, 0, 1);
        gameIs(" ", 0, -1, 0, 1);
        gameIs("   ", 0, -1, 0, 1);
        Due.is("readGame() of a new object", new BoardNotation().readGame(), 0);
    }

    private static void blanksAsManyAsItLikes() {
        Due.sentence("with blanks between, ahead and behind as many as it likes");
        gameIs("Ra2 Rh7", 0, -1, 2, 3);
        gameIs(" Ra2 Rh7", 0, -1, 2, 3);
        gameIs("Ra2 Rh7 ", 0, -1, 2, 3);
        gameIs("Ra2  Rh7", 0, -1, 2, 3);
        gameIs("  Ra2   Rh7   ", 0, -1, 2, 3);
        gameIs(" ".repeat(990) + "Ra2" + " ".repeat(990) + "Rh7", 0, -1, 2, 3);
        writtenIs("  Ra2  (  Ra3  (  Ra4  )  Rh7  )  Rh6  ", "Ra2 (Ra3 Rh7) (Ra4) Rh6");
    }

    private static void noBlankBesideABracket() {
        Due.sentence("(none is needed beside a bracket)");
        writtenIs("Ra2(Ra3)Rh7", "Ra2 (Ra3) Rh7");
        writtenIs("Ra2(Ra3)(Ra4)Rh7", "Ra2 (Ra3) (Ra4) Rh7");
        writtenIs("Ra2(Ra3(Ra4)Rh6)Rh7", "Ra2 (Ra3 Rh6) (Ra4) Rh7");
        writtenIs("Ra2 (Ra3 Rh7(Rh6))Rh7", "Ra2 (Ra3 Rh7 (Rh6)) Rh7");
        gameIs("Ra2Rh7", 1, 0, 0, 1);
    }

    private static void wordsBetweenBlanks() {
        Due.sentence("A word is read as a move from the present node, and played");
        gameIs("R a2", 1, 0, 0, 1);
        gameIs("Ra 2", 1, 0, 0, 1);
        gameIs("Ra2R h7", 1, 0, 0, 1);
        gameIs("Ra2 Rh7R", 1, 4, 1, 2);
        gameIs("Ra(2", 1, 0, 0, 1);
        gameIs("Ra2 Rh)", 1, 4, 1, 2);
    }

    private static void otherBytesBelongToWords() {
        Due.sentence("A text is a row of words, ( and ), with blanks between");
        for (int b : new int[] {0, 9, 10, 13, 31, 33, 39, 42, 44, 91, 93, 123, 125, 160, 168, 169, 255}) {
            gameIs("Ra2" + (char) b + "Rh7", 1, 0, 0, 1);
            gameIs("Ra2 " + (char) b, 1, 4, 1, 2);
            gameIs((char) b + " Ra2", 1, 0, 0, 1);
        }
    }

    private static void wordsArePlayed() {
        Due.sentence("the new (or old) node is the present one then");
        for (int moves = 1; moves <= 5; moves++) {
            BoardNotation x = gameIs(Boards.lineText(moves), 0, -1, moves, moves + 1);
            Due.is("node(" + moves + ", 3)", x.node(moves, 3), moves);
        }
    }

    private static void oldNodesArePlayed() {
        Due.sentence("the new (or old) node is the present one then");
        gameIs("Ra2 (Ra2)", 0, -1, 1, 2);
        BoardNotation x = gameIs("Ra2 (Ra2 Rh7 (Rh6)) Rh6", 0, -1, 3, 4);
        Due.isText("the game", Due.writeGame(x), "Ra2 Rh7 (Rh6)");
        x = gameIs("Ra2 (Ra3) (Ra3 Rh7) (Ra2 Rh6", 8, 28, 4, 5);
        Due.isText("the game", Due.writeGame(x), "Ra2 (Ra3 Rh7) Rh6");
    }

    private static void openingGoesUp() {
        Due.sentence("At a ( the present node becomes the one ahead of it (the node above it)");
        BoardNotation x = gameIs("Ra2 (Ra3", 8, 8, 2, 3);
        Due.is("the node above the variation at the first move", x.node(2, 0), 0);
        x = gameIs("Ra2 Rh7 (Rh6", 8, 12, 3, 4);
        Due.is("the node above the variation at the second move", x.node(3, 0), 1);
        x = gameIs("Ra2 Rh7 (Rh6 (Rh5", 8, 17, 4, 5);
        Due.is("the node above the variation at a variation's first move", x.node(4, 0), 1);
        x = gameIs("Ra2 Rh7 (Rh6 Ra3 (Ra4", 8, 21, 5, 6);
        Due.is("the node above the variation at a variation's second move", x.node(5, 0), 3);
        gameIs("Ra2 Rh7 (Ra3)", 3, 9, 1, 3);
    }

    private static void closingGoesBack() {
        Due.sentence("at the ) that belongs to it the present node becomes again that at the (");
        gameIs("Ra2 (Ra3)", 0, -1, 1, 3);
        gameIs("Ra2 (Ra3 Rh7 Ra4)", 0, -1, 1, 5);
        gameIs("Ra2 Rh7 (Rh6)", 0, -1, 2, 4);
        gameIs("Ra2 Rh7 (Rh6) (Rh5)", 0, -1, 2, 5);
        BoardNotation x = gameIs("Ra2 (Ra3) Rh7", 0, -1, 3, 4);
        Due.is("the node above the move behind the )", x.node(3, 0), 1);
        gameIs("Ra2 (Ra3 Rh7) Ra4", 3, 14, 1, 4);
    }

    private static void closingThatBelongs() {
        Due.sentence("at the ) that belongs to it the present node becomes again that at the (");
        BoardNotation x = gameIs("Ra2 (Ra3 (Ra4) Rh7)", 0, -1, 1, 5);
        Due.is("the node above the move behind the inner )", x.node(4, 0), 2);
        x = gameIs("Ra2 (Ra3 Rh7 (Rh6 Ra4 (Ra5)) Ra6) Rh5", 0, -1, 8, 9);
        Due.is("the node above the move behind the two inner )", x.node(7, 0), 3);
        Due.is("the node above the move behind the outer )", x.node(8, 0), 1);
    }

    private static void errorsOfWords() {
        Due.sentence("the errors 1 to 7 of a word (position: that of its first byte)");
        String[] words = {"Nd", "Qd5", "Nh8", "Ned5", "Nd5", "Kxf2", "Kf2+"};
        String[] aheads = {"", "  ", "Kf2 Kh7 Ke1 Kh8 ", "Kf2 Kh7 Ke1 Kh8   ", "Kf2(", "Kf2 (Kd2) (", "Kf2 (  "};
        for (int k = 0; k < words.length; k++) {
            for (String ahead : aheads) {
                for (String behind : new String[] {"", " ", ")", "(", " Kf2", " ?"}) {
                    BoardNotation x = knights();
                    String text = ahead + words[k] + behind;
                    Due.is("readGame() of \"" + text + "\"", Due.readGame(x, text), k + 1);
                    Due.is("found(0) of \"" + text + "\"", x.found(0), ahead.length());
                }
            }
        }
    }

    /** Of the knights b4, c3 and e3, which all reach d5, the rook e8 of side 1 keeps the last one in the file. */
    private static BoardNotation knights() {
        BoardNotation x = Due.chess();
        Due.put(x, "e1", 0, 0);
        Due.put(x, "b4", 2, 0);
        Due.put(x, "c3", 2, 0);
        Due.put(x, "e3", 2, 0);
        Due.put(x, "e8", 1, 1);
        Due.put(x, "h8", 0, 1);
        return x;
    }

    private static void errorsOfWordsGoByTheirNode() {
        Due.sentence("A word is read as a move from the present node");
        gameIs("Ra2 Ra3", 3, 4, 1, 2);
        gameIs("Ra2 Rh7 Ra2", 3, 8, 2, 3);
        gameIs("Rh7", 3, 0, 0, 1);
        gameIs("Ra2 Rh7 (Ra3)", 3, 9, 1, 3);
        gameIs("Ra2 (Rh7)", 3, 5, 0, 2);
    }

    private static void openingAtNodeZero() {
        Due.sentence("8, a ( at node 0");
        gameIs("(", 8, 0, 0, 1);
        gameIs("  (Ra2)", 8, 2, 0, 1);
        gameIs("(Ra2) Ra3", 8, 0, 0, 1);
        gameIs("Ra2 (Ra3) Rh7", 0, -1, 3, 4);
        BoardNotation x = Boards.line(3);
        gameIs(x, "(Ra2)", 8, 0, 0, 1);
    }

    private static void closingWithoutOpening() {
        Due.sentence("or a ) without a (");
        gameIs(")", 8, 0, 0, 1);
        gameIs("  )", 8, 2, 0, 1);
        gameIs("Ra2)", 8, 3, 1, 2);
        gameIs("Ra2 ) Rh7", 8, 4, 1, 2);
        gameIs("Ra2 (Ra3)", 0, -1, 1, 3);
        gameIs("Ra2 (Ra3))", 8, 9, 1, 3);
        gameIs("Ra2 (Ra3) Rh7 )", 8, 14, 3, 4);
        gameIs("Ra2 (Ra3 (Ra4)))", 8, 15, 1, 4);
    }

    private static void bracketWhereAMoveHasToStand() {
        Due.sentence("or ( or ) where a move has to stand: behind a ( (position: of this byte)");
        gameIs("Ra2 ()", 8, 5, 0, 2);
        gameIs("Ra2 ((", 8, 5, 0, 2);
        gameIs("Ra2 (  )", 8, 7, 0, 2);
        gameIs("Ra2 (  (Ra3", 8, 7, 0, 2);
        gameIs("Ra2 Rh7 ()", 8, 9, 1, 3);
        gameIs("Ra2 Rh7 ((Rh6)", 8, 9, 1, 3);
        gameIs("Ra2 Rh7 Ra1 ((Rh6)", 8, 13, 2, 4);
        gameIs("Ra2 (Ra3 () ", 8, 10, 0, 3);
        gameIs("Ra2 (Ra3) ()", 8, 11, 0, 3);
        gameIs("Ra2 (Ra3)(Ra4)", 0, -1, 1, 4);
        gameIs("Ra2 (Ra3(Ra4))", 0, -1, 1, 4);
    }

    private static void endWithOpenBrackets() {
        Due.sentence("or the end of the text with a ( that was not closed, or behind a ( (position: its length)");
        gameIs("Ra2 (Ra3", 8, 8, 2, 3);
        gameIs("Ra2 (Ra3  ", 8, 10, 2, 3);
        gameIs("Ra2 (Ra3 Rh7", 8, 12, 3, 4);
        gameIs("Ra2 (Ra3 (Ra4)", 8, 14, 2, 4);
        gameIs("Ra2 (Ra3 (Ra4", 8, 13, 3, 4);
        gameIs("Ra2 (Ra3 (Ra4))", 0, -1, 1, 4);
        gameIs("Ra2 (Ra3", 8, 8, 2, 3);
    }

    private static void endBehindABracket() {
        Due.sentence("or behind a ( (position: its length)");
        gameIs("Ra2 (", 8, 5, 0, 2);
        gameIs("Ra2(", 8, 4, 0, 2);
        gameIs("Ra2 (   ", 8, 8, 0, 2);
        gameIs("Ra2 Rh7 (", 8, 9, 1, 3);
        gameIs("Ra2 (Ra3) (", 8, 11, 0, 3);
        gameIs("Ra2 (Ra3 (", 8, 10, 0, 3);
    }

    private static void twoHundredNodes() {
        Due.sentence("9, there would be more than 200 nodes (position: of the first byte of the word)");
        gameIs(Boards.lineText(198), 0, -1, 198, 199);
        gameIs(Boards.lineText(199), 0, -1, 199, 200);
        gameIs(Boards.lineText(199) + "  ", 0, -1, 199, 200);
        gameIs(Boards.lineText(200), 9, 796, 199, 200);
        gameIs(Boards.lineText(199) + "   Rh8 Ra2", 9, 798, 199, 200);
        gameIs(Boards.lineText(199) + " (Ra3)", 9, 797, 198, 200);
        gameIs(Boards.lineText(198) + " (Rh5) Ra1", 9, 798, 198, 200);
        gameIs(Boards.lineText(198) + " (Rh5)", 0, -1, 198, 200);
    }

    private static void oldNodesAtTheLimit() {
        Due.sentence("9, there would be more than 200 nodes");
        gameIs(Boards.lineText(199) + " (Ra1)", 0, -1, 199, 200);
        gameIs(Boards.lineText(199) + " (Ra1) Rh8", 9, 802, 199, 200);
        gameIs(Boards.lineText(199) + " (Ra1 Rh8)", 9, 801, 199, 200);
        gameIs(Boards.lineText(199) + " (Ra1 (Ra1 (Ra1)))", 0, -1, 199, 200);
    }

    private static void wordErrorsAheadOfErrorNine() {
        Due.sentence("The first error ends it: the errors 1 to 7 of a word (position: that of its first byte)");
        String[] words = {"?", "Qh8", "Rh7", "Rxh8", "Rh8+", "Rh8"};
        int[] errors = {1, 2, 3, 6, 7, 9};
        for (int k = 0; k < words.length; k++) {
            gameIs(Boards.lineText(199) + " " + words[k], errors[k], 796, 199, 200);
        }
        gameIs(Boards.lineText(199) + " )", 8, 796, 199, 200);
        gameIs(Boards.lineText(199) + " ((", 8, 797, 198, 200);
        gameIs(Boards.lineText(199) + " (", 8, 797, 198, 200);
    }

    private static void firstErrorEndsIt() {
        Due.sentence("The first error ends it");
        gameIs("Ra2 ? )", 1, 4, 1, 2);
        gameIs("Ra2 ) ?", 8, 4, 1, 2);
        gameIs("Ra2 Qh7 Rh7", 2, 4, 1, 2);
        gameIs("Ra2 (Ra3 Rxh7) Rh7", 6, 9, 2, 3);
        gameIs("Ra2 (Qa3", 2, 5, 0, 2);
        gameIs("Ra2 ()(", 8, 5, 0, 2);
    }

    private static void playedStays() {
        Due.sentence("What was played ahead of the error stays.");
        BoardNotation x = gameIs("Ra2 (Ra3 Rh7) Rh6 ?", 1, 18, 4, 5);
        Due.isText("the game", Due.writeGame(x), "Ra2 (Ra3 Rh7) Rh6");
        x = gameIs("Ra2 (Ra3 Rh7", 8, 12, 3, 4);
        Due.isText("the game", Due.writeGame(x), "Ra2 (Ra3 Rh7)");
        Due.is("at(a1) at the present node", x.at(0), -1);
        Due.is("at(a3) at the present node", x.at(16), 0);
        Due.is("at(h7) at the present node", x.at(55), 1);
        Due.is("play() from it", x.play(16, 24), 4);
    }

    private static void tapeStays() {
        Due.sentence("Reads the tape as the text of a game; the tape stays.");
        for (String text : new String[] {"Ra2  Rh7", "Ra2 (Ra3", "", "?", "  Ra2(Ra3)"}) {
            BoardNotation x = Boards.columns();
            Due.readGame(x, text);
            Due.isText("the tape", Due.tape(x), text);
            x.readGame();
            Due.isText("the tape behind the same again", Due.tape(x), text);
        }
    }

    private static void lastPresentNode() {
        Due.sentence("The present node is the last one that was present.");
        gameIs("Ra2 Rh7", 0, -1, 2, 3);
        gameIs("Ra2 (Ra3)", 0, -1, 1, 3);
        gameIs("Ra2 (Ra3) Rh7", 0, -1, 3, 4);
        gameIs("Ra2 (Ra3) ?", 1, 10, 1, 3);
        gameIs("Ra2 (Ra3 ?", 1, 9, 2, 3);
        gameIs("Ra2 (?", 1, 5, 0, 2);
        gameIs("Ra2 Rh7 (?", 1, 9, 1, 3);
        gameIs("Ra2 Rh7 (", 8, 9, 1, 3);
        BoardNotation x = gameIs("Ra2 Rh7 (", 8, 9, 1, 3);
        Due.is("the side there", x.state(0), 1);
        Due.is("at(h8) there", x.at(63), 1);
        Due.is("at(a2) there", x.at(8), 0);
    }

    private static void manyOpenBrackets() {
        Due.sentence("at the ) that belongs to it the present node becomes again that at the (");
        gameIs("Ra2" + "(Ra2".repeat(499), 8, 1999, 1, 2);
        gameIs("Ra2" + "(Ra3".repeat(399) + ")".repeat(399), 0, -1, 1, 3);
        gameIs("Ra2" + "(Ra3".repeat(399) + ")".repeat(400), 8, 1998, 1, 3);
        gameIs("Ra2" + "(Ra3".repeat(399) + ")".repeat(398), 8, 1997, 2, 3);
        gameIs("Ra2" + "(Ra3)".repeat(399), 0, -1, 1, 3);
    }

    private static void fullTape() {
        Due.sentence("Reads the tape as the text of a game");
        gameIs(" ".repeat(2000), 0, -1, 0, 1);
        gameIs(" ".repeat(1997) + "Ra2", 0, -1, 1, 2);
        gameIs(" ".repeat(1999) + "R", 1, 1999, 0, 1);
        gameIs(" ".repeat(1999) + ")", 8, 1999, 0, 1);
        gameIs("Ra2" + " ".repeat(1996) + "(", 8, 2000, 0, 2);
        gameIs("(".repeat(2000), 8, 0, 0, 1);
        gameIs("R".repeat(2000), 1, 0, 0, 1);
    }

    private static void highestError() {
        Due.sentence("Returns 0, or the error, 1 to 9.");
        gameIs("Ra2", 0, -1, 1, 2);
        gameIs(Boards.lineText(200), 9, 796, 199, 200);
    }
}
