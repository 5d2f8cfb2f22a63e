import java.util.Set;
import java.util.TreeSet;

/** The boundary cases of the term Reading and of promises 11 and 12 (read, found), sentence by sentence. */
public final class ReadingBoundaryTest {
    /** The forms of a move: C a capital letter, F a file, R a rank, x, s a sign. */
    private static final Set<String> FORMS = forms();
    private static final String STATES = "CFRxs";

    public static void main(String[] args) {
        placesOfErrorOne();
        formsThatEndTooEarly();
        formsOfAllParts();
        readInOneWay();
        unknownLetter();
        noPieceReaches();
        noPieceFromThere();
        noneLegal();
        severalLegal();
        wrongCapture();
        wrongSign();
        firstOfErrors();
        placesOfOtherErrors();
        placesInBytes();
        readPlaysNothing();
        readOfFullAndEmptyTapes();
        readAnswers();
        foundPlace();
        foundSquares();
        foundNoWhat();
        Due.end();
    }

    private static Set<String> forms() {
        Set<String> forms = new TreeSet<>();
        for (String origin : new String[] {"", "F", "R", "FR"}) {
            for (String captures : new String[] {"", "x"}) {
                forms.add("C" + origin + captures + "FR");
                forms.add("C" + origin + captures + "FRs");
            }
        }
        return forms;
    }

    private static boolean isBeginning(String states) {
        return FORMS.stream().anyMatch(form -> form.startsWith(states));
    }

    /** Which of the five a byte is; '?' for none. */
    private static char stateOf(int b) {
        if (b >= 65 && b <= 90) {
            return 'C';
        }
        if (b >= 97 && b <= 104) {
            return 'F';
        }
        if (b >= 49 && b <= 56) {
            return 'R';
        }
        return b == 120 ? 'x' : b == 43 || b == 35 ? 's' : '?';
    }

    private static void errorOne(String text, int place) {
        BoardNotation x = new BoardNotation();
        Due.is("read() of \"" + text + "\"", Due.read(x, text), 1);
        Due.is("found(0)", x.found(0), place);
        Due.isText("the tape", Due.tape(x), text);
    }

    /** Behind each beginning of each form, each byte that goes on and each that does not. */
    private static void placesOfErrorOne() {
        Due.sentence("(position: the first byte with which it is not the beginning of such a text any more; the end of it,"
                + " if it ends too early)");
        Set<String> beginnings = new TreeSet<>();
        for (String form : FORMS) {
            for (int length = 0; length <= form.length(); length++) {
                beginnings.add(form.substring(0, length));
            }
        }
        for (String states : beginnings) {
            StringBuilder text = new StringBuilder();
            for (char state : states.toCharArray()) {
                text.append("Ka1x+".charAt(STATES.indexOf(state)));
            }
            for (int b = 0; b <= 255; b++) {
                errorBehind(text.toString(), states, b);
            }
        }
    }

    private static void errorBehind(String beginning, String states, int b) {
        String text = beginning + (char) b;
        String longer = states + stateOf(b);
        if (!isBeginning(longer)) {
            errorOne(text, beginning.length());
            // What stands behind the first wrong byte does not matter.
            errorOne(text + "Ka1xb2+?", beginning.length());
        } else if (!FORMS.contains(longer)) {
            errorOne(text, text.length());
        } else {
            Due.is("read() of \"" + text + "\"", Due.read(new BoardNotation(), text), 2);
        }
    }

    private static void formsThatEndTooEarly() {
        Due.sentence("the end of it, if it ends too early");
        errorOne("", 0);
        errorOne("K", 1);
        errorOne("Ka", 2);
        errorOne("K1", 2);
        errorOne("Kx", 2);
        errorOne("Ka1x", 4);
        errorOne("Ka1b", 4);
        errorOne("Ka1xb", 5);
    }

    private static void formsOfAllParts() {
        Due.sentence("a capital letter; then a file, a rank, both in this order, or nothing; then x or nothing; then a file"
                + " and a rank; then +, # or nothing; then the end");
        for (int letter : new int[] {65, 66, 89, 90}) {
            BoardNotation x = Boards.columns();
            x.feed(letter, 'a', '2', -1);
            Due.is("read() of the letter " + letter, x.read(), 2);
        }
        errorOne((char) 64 + "a2", 0);
        errorOne((char) 91 + "a2", 0);
        errorOne("K1a2b3", 4);
        errorOne("Kaa1b2", 4);
        errorOne("Ka1xxb2", 4);
        errorOne("Kxa1b2", 4);
        errorOne("Ka1++", 4);
        errorOne("Ka1+ ", 4);
        String[] texts = {"Ra2", "Raa2", "R1a2", "Ra1a2"};
        for (String text : texts) {
            BoardNotation x = Boards.columns();
            Due.is("read() of " + text, Due.read(x, text), 0);
            Due.is("found(1) of " + text, x.found(1), 0);
            Due.is("found(2) of " + text, x.found(2), 8);
        }
    }

    /** One file and one rank are those of the target, and only more of them those of the origin. */
    private static void readInOneWay() {
        Due.sentence("What stands behind the first letter is read so that it fits; there is one way at most.");
        BoardNotation x = Boards.columns();
        Due.is("read() of the target alone", Due.read(x, "Ra8"), 0);
        Due.is("found(2)", x.found(2), 56);
        Due.is("read() of a file and the target", Due.read(x, "Rba8"), 3);
        Due.is("read() of a rank and the target", Due.read(x, "R2a8"), 3);
        Due.is("read() of an origin and the target", Due.read(x, "Ra1a8"), 0);
        Due.is("read() of an origin in the wrong file and the target", Due.read(x, "Rb1a8"), 3);
        Due.is("read() of an origin in the wrong rank and the target", Due.read(x, "Ra2a8"), 3);
        Due.is("read() of the origin as the target", Due.read(x, "Ra1"), 3);
        x.addKind('B');
        x.put(24, 1, 1);
        Due.is("read() of the target with x", Due.read(x, "Rxa4"), 0);
        Due.is("read() of a file, x and the target", Due.read(x, "Raxa4"), 0);
        Due.is("read() of a rank, x and the target", Due.read(x, "R1xa4"), 0);
        Due.is("read() of an origin, x and the target", Due.read(x, "Ra1xa4"), 0);
        Due.is("found(1)", x.found(1), 0);
        Due.is("found(2)", x.found(2), 24);
        Due.is("read() of another file, x and the target", Due.read(x, "Rbxa4"), 3);
        Due.is("read() of another rank, x and the target", Due.read(x, "R2xa4"), 3);
    }

    private static void unknownLetter() {
        Due.sentence("2, no kind has this letter");
        BoardNotation x = new BoardNotation();
        Due.is("without kinds", Due.read(x, "Aa1"), 2);
        x.addKind('A');
        Due.is("with a kind of this letter", Due.read(x, "Aa1"), 3);
        Due.is("with a kind of the letter ahead", Due.read(x, "Ba1"), 2);
        for (int kind = 1; kind < 6; kind++) {
            x.addKind('A' + kind);
        }
        Due.is("the last of six", Due.read(x, "Fa1"), 3);
        Due.is("beside six", Due.read(x, "Ga1"), 2);
    }

    private static void noPieceReaches() {
        Due.sentence("3, no piece of this kind (and from this file or rank, if they stand there), of the side whose turn it"
                + " is, reaches the square");
        BoardNotation x = Boards.columns();
        x.addKind('A');
        x.addStep(1, 1, 0, 1);
        x.put(1, 1, 0);
        Due.is("another kind reaches it", Due.read(x, "Ra1"), 3);
        Due.is("another kind reaches it", Due.read(x, "Aa2"), 3);
        Due.is("this kind reaches it", Due.read(x, "Ra2"), 0);
        Due.is("the other side reaches it", Due.read(x, "Rh7"), 3);
        x.play(0, 8);
        Due.is("the side whose turn it is then", Due.read(x, "Rh7"), 0);
        Due.is("the side that moved", Due.read(x, "Ra3"), 3);
        x.clear();
        x.put(0, -1, 0);
        Due.is("no piece of this kind and side", Due.read(x, "Ra2"), 3);
        x.put(0, 0, 0);
        x.put(8, 1, 0);
        Due.is("an own piece there", Due.read(x, "Ra2"), 3);
        Due.is("behind an own piece", Due.read(x, "Ra3"), 3);
    }

    private static void noPieceFromThere() {
        Due.sentence("(and from this file or rank, if they stand there)");
        BoardNotation x = new BoardNotation();
        x.addKind('A');
        for (int d = -1; d <= 1; d += 2) {
            x.addStep(0, d, d, 1);
            x.addStep(0, d, -d, 1);
        }
        Due.put(x, "c3", 0, 0);
        Due.put(x, "e5", 0, 0);
        Due.is("from the one's file", Due.read(x, "Acd4"), 0);
        Due.is("found(1)", x.found(1), 18);
        Due.is("from the other's file", Due.read(x, "Aed4"), 0);
        Due.is("found(1)", x.found(1), 36);
        Due.is("from neither's file", Due.read(x, "Add4"), 3);
        Due.is("from the one's rank", Due.read(x, "A3d4"), 0);
        Due.is("found(1)", x.found(1), 18);
        Due.is("from the other's rank", Due.read(x, "A5d4"), 0);
        Due.is("found(1)", x.found(1), 36);
        Due.is("from neither's rank", Due.read(x, "A4d4"), 3);
        Due.is("from both of the one", Due.read(x, "Ac3d4"), 0);
        Due.is("from the one's file and the other's rank", Due.read(x, "Ac5d4"), 3);
        Due.is("from the other's file and the one's rank", Due.read(x, "Ae3d4"), 3);
    }

    /** King e1 and knight e3, which the rook e8 of side 1 keeps in the file. */
    private static BoardNotation pinned() {
        BoardNotation x = Due.chess();
        Due.put(x, "e1", 0, 0);
        Due.put(x, "e3", 2, 0);
        Due.put(x, "e8", 1, 1);
        return x;
    }

    private static void noneLegal() {
        Due.sentence("4, none of these moves is legal");
        BoardNotation x = pinned();
        Due.is("one reaches it, none is legal", Due.read(x, "Nd5"), 4);
        Due.put(x, "b4", 2, 0);
        Due.is("two reach it, one is legal", Due.read(x, "Nd5"), 0);
        Due.is("found(1)", x.found(1), Due.square("b4"));
        Due.is("from the file of the one that is not legal", Due.read(x, "Ned5"), 4);
        Due.is("from the file of the legal one", Due.read(x, "Nbd5"), 0);
        Due.put(x, "b4", -1, 0);
        Due.put(x, "a1", 1, 1);
        Due.is("two reach nothing legal", Due.read(x, "Nd5"), 4);
        Due.is("the royal piece into check", Due.read(x, "Kf1"), 4);
        Due.is("the royal piece out of it", Due.read(x, "Kf2"), 0);
    }

    private static void severalLegal() {
        Due.sentence("5, more than one of them is legal");
        BoardNotation x = pinned();
        Due.put(x, "b4", 2, 0);
        Due.is("one legal", Due.read(x, "Nd5"), 0);
        Due.put(x, "c3", 2, 0);
        Due.is("two legal", Due.read(x, "Nd5"), 5);
        Due.is("one of them from its file", Due.read(x, "Ncd5"), 0);
        Due.is("one of them from its rank", Due.read(x, "N4d5"), 0);
        Due.put(x, "b6", 2, 0);
        Due.is("three legal", Due.read(x, "Nd5"), 5);
        Due.is("two of them from a file", Due.read(x, "Nbd5"), 5);
        Due.is("one of them from both", Due.read(x, "Nb6d5"), 0);
        Due.is("one legal and one not, from a rank", Due.read(x, "N3d5"), 0);
        Due.is("found(1)", x.found(1), Due.square("c3"));
    }

    private static void wrongCapture() {
        Due.sentence("6, x stands there and it does not capture, or the other way round");
        BoardNotation x = Boards.columns();
        x.addKind('B');
        x.put(24, 1, 1);
        Due.is("x, and no capture", Due.read(x, "Rxa3"), 6);
        Due.is("no x, and no capture", Due.read(x, "Ra3"), 0);
        Due.is("no x, and a capture", Due.read(x, "Ra4"), 6);
        Due.is("x, and a capture", Due.read(x, "Rxa4"), 0);
    }

    private static void wrongSign() {
        Due.sentence("7, + or # stands there and is wrong, or should stand there and does not");
        BoardNotation x = Due.chess();
        Due.put(x, "h8", 0, 1);
        Due.put(x, "a7", 1, 0);
        Due.put(x, "b1", 1, 0);
        String[] texts = {"Rb5", "Rh1", "Rb8"};
        String[] due = {"", "+", "#"};
        for (int k = 0; k < texts.length; k++) {
            for (String sign : due) {
                Due.is("read() of " + texts[k] + sign, Due.read(x, texts[k] + sign), sign.equals(due[k]) ? 0 : 7);
            }
        }
        Due.is("read() of a move behind which there is no legal move, but no check", Due.read(x, "Rg1"), 0);
        Due.is("the same with #", Due.read(x, "Rg1#"), 7);
    }

    /** Each error, with all that may follow it wrong too. */
    private static void firstOfErrors() {
        Due.sentence("The first of these errors");
        BoardNotation x = pinned();
        Due.is("1 ahead of 2", Due.read(x, "Qd"), 1);
        Due.is("1 ahead of 3", Due.read(x, "Nh8?"), 1);
        Due.is("1 ahead of 0", Due.read(x, "Kf2?"), 1);
        Due.is("2 ahead of 3, 6 and 7", Due.read(x, "Qxe1#"), 2);
        Due.is("3 ahead of 6", Due.read(x, "Nxh8"), 3);
        Due.is("3 ahead of 7", Due.read(x, "Nh8+"), 3);
        Due.is("4 ahead of 6 and 7", Due.read(x, "Nxd5#"), 4);
        x = pinned();
        Due.put(x, "b4", 2, 0);
        Due.put(x, "c3", 2, 0);
        Due.is("5 ahead of 6", Due.read(x, "Nxd5"), 5);
        Due.is("5 ahead of 7", Due.read(x, "Nd5+"), 5);
        Due.is("5 ahead of 6 and 7", Due.read(x, "Nxd5#"), 5);
        Due.is("6 ahead of 7", Due.read(x, "Ncxd5#"), 6);
        Due.is("7", Due.read(x, "Ncd5#"), 7);
        Due.is("0", Due.read(x, "Ncd5"), 0);
    }

    private static void placesOfOtherErrors() {
        Due.sentence("The position of the errors 2 to 7 is 0.");
        String[] texts = {"Qd5", "Nh8", "Nd5", "Na2", "Kxf2", "Kf2+"};
        BoardNotation x = pinned();
        Due.put(x, "c1", 2, 0);
        Due.put(x, "c3", 2, 0);
        Due.put(x, "b4", 2, 0);
        for (int k = 0; k < texts.length; k++) {
            Due.read(x, "K????");
            Due.is("found(0) of error 1", x.found(0), 1);
            int error = k + 2;
            Due.is("read() of " + texts[k], Due.read(x, texts[k].equals("Nd5") ? "Ned5" : texts[k]), error);
            Due.is("found(0) of error " + error, x.found(0), 0);
        }
    }

    private static void placesInBytes() {
        Due.sentence("All positions in texts are counted from 0, in bytes.");
        errorOne((char) 195 + "" + (char) 132 + "a1", 0);
        errorOne("K" + (char) 195 + (char) 164 + "1", 1);
        errorOne("Ka1" + (char) 0, 3);
        errorOne("Ka1" + (char) 255, 3);
        errorOne("Ka1xb2" + (char) (43 + 128), 6);
    }

    private static void readPlaysNothing() {
        Due.sentence("Reads the tape as a move from the present node, which is not played; the tape stays.");
        BoardNotation x = Boards.line(199);
        Due.feed(x, "Rh1");
        long digest = x.digest();
        Due.is("read() with 200 nodes", x.read(), 0);
        Due.isLong("digest() behind read()", x.digest(), digest);
        Due.is("found(1)", x.found(1), 55);
        Due.is("found(2)", x.found(2), 7);
        x.goTo(0);
        Due.is("read() of the other side's move at node 0", x.read(), 3);
        Due.is("the node", x.state(3), 0);
        Due.isText("the tape", Due.tape(x), "Rh1");
    }

    private static void readOfFullAndEmptyTapes() {
        Due.sentence("Reads the tape as a move from the present node, which is not played; the tape stays.");
        BoardNotation x = Boards.columns();
        Due.is("read() of an empty tape", x.read(), 1);
        Due.is("found(0)", x.found(0), 0);
        Due.feed(x, "Ra2");
        Due.is("read() of the tape", x.read(), 0);
        Due.feed(x, "+".repeat(1997));
        Due.is("read() of a full tape", x.read(), 1);
        Due.is("found(0)", x.found(0), 4);
        Due.is("the bytes", x.state(6), 2000);
    }

    private static void readAnswers() {
        Due.sentence("Returns 0, or the error, 1 to 7.");
        BoardNotation x = Boards.columns();
        Due.is("read() of a move", Due.read(x, "Ra2"), 0);
        Due.is("read() again", x.read(), 0);
        Due.is("read() of two moves", Due.read(x, "Ra2 Rh7"), 1);
        Due.is("read() of a bracket", Due.read(x, "("), 1);
        Due.is("read() of a blank", Due.read(x, " "), 1);
        Due.is("read() with the highest error", Due.read(x, "Ra2#"), 7);
    }

    private static void foundPlace() {
        Due.sentence("0 the position of the error of the latest read or readGame, -1 if it had none, or there was none");
        BoardNotation x = Boards.columns();
        Due.is("found(0) ahead of all", x.found(0), -1);
        Due.read(x, "?");
        Due.is("found(0) of a read() with error 1 at 0", x.found(0), 0);
        Due.read(x, "Ra2");
        Due.is("found(0) of a read() without error", x.found(0), -1);
        Due.readGame(x, "Ra2 ?");
        Due.is("found(0) of a readGame() with an error", x.found(0), 4);
        Due.readGame(x, "Ra2 Rh7");
        Due.is("found(0) of a readGame() without error", x.found(0), -1);
        Due.read(x, "Ra");
        Due.is("found(0) of a read() at its end", x.found(0), 2);
        Due.readGame(x, "");
        Due.is("found(0) of a readGame() of nothing", x.found(0), -1);
        Due.read(x, "Ra8?");
        x.clear();
        x.empty();
        x.write(0, 8);
        x.play(0, 8);
        x.writeGame();
        Due.is("found(0) behind calls that read nothing", x.found(0), 3);
    }

    private static void foundSquares() {
        Due.sentence("1 and 2 the square from which the move comes, and that to which it goes, of the latest read() without"
                + " an error (-1 if there was none; words that readGame() reads do not count)");
        BoardNotation x = Boards.columns();
        squaresAre(x, "ahead of all", -1, -1);
        Due.read(x, "Rb2");
        squaresAre(x, "behind a read() with an error", -1, -1);
        Due.readGame(x, "Ra2 Rh7");
        squaresAre(x, "behind readGame()", -1, -1);
        x.clear();
        Due.read(x, "Ra8");
        squaresAre(x, "behind a read() without an error", 0, 56);
        Due.read(x, "Ra3");
        squaresAre(x, "behind another one", 0, 16);
        for (String wrong : new String[] {"", "Qa2", "Rb2", "Rxa2", "Ra2+"}) {
            Due.read(x, wrong);
            squaresAre(x, "behind a wrong \"" + wrong + "\"", 0, 16);
        }
        Due.readGame(x, "Ra5 Rh5");
        squaresAre(x, "behind a readGame() without an error", 0, 16);
        Due.readGame(x, "Ra5 Rh5 ?");
        squaresAre(x, "behind a readGame() with an error", 0, 16);
        x.goTo(1);
        Due.read(x, "Rh1");
        squaresAre(x, "behind a read() of the other side", 63, 7);
        x.clear();
        x.empty();
        squaresAre(x, "behind clear() and empty()", 63, 7);
    }

    private static void squaresAre(BoardNotation x, String when, int from, int to) {
        Due.is("found(1) " + when, x.found(1), from);
        Due.is("found(2) " + when, x.found(2), to);
    }

    private static void foundNoWhat() {
        Due.sentence("Throws `IndexOutOfBoundsException` if what is not 0 to 2");
        BoardNotation x = Boards.columns();
        Due.read(x, "Ra8");
        Due.isRefused("found(-1)", Due.INDEX, x, () -> x.found(-1));
        Due.is("found(0)", x.found(0), -1);
        Due.is("found(2)", x.found(2), 56);
        Due.isRefused("found(3)", Due.INDEX, x, () -> x.found(3));
        for (int what : new int[] {Integer.MIN_VALUE, 256, Integer.MAX_VALUE}) {
            Due.isRefused("found(" + what + ")", Due.INDEX, x, () -> x.found(what));
        }
    }
}
