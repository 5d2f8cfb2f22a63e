/** Promises 9 to 14: feed, empty, read, found, write, byteAt. */
public final class ShortFormTest {
    public static void main(String[] args) {
        feed();
        feedAtTheLimit();
        empty();
        formErrors();
        readErrors();
        readOrder();
        found();
        write();
        writeUnlike();
        writeSigns();
        byteAt();
        Due.end();
    }

    private static void feed() {
        BoardNotation x = new BoardNotation();
        Due.is("feed(0, -1, -1, -1)", x.feed(0, -1, -1, -1), 1);
        Due.is("feed(255, 254, 253, 252)", x.feed(255, 254, 253, 252), 5);
        Due.is("feed(7, -1, 8, -1)", x.feed(7, -1, 8, -1), 7);
        Due.is("feed(9, -1, -1, 10)", x.feed(9, -1, -1, 10), 9);
        Due.is("feed(1, 255, 255, 255)", x.feed(1, 255, 255, 255), 13);
        int[] due = {0, 255, 254, 253, 252, 7, 8, 9, 10, 1, 255, 255, 255};
        for (int k = 0; k < due.length; k++) {
            Due.is("byteAt(" + k + ")", x.byteAt(k), due[k]);
        }
        for (int wrong : new int[] {-2, 256, Integer.MIN_VALUE, Integer.MAX_VALUE}) {
            Due.isThrown("feed(" + wrong + ", 0, 0, 0)", Due.ARGUMENT, () -> x.feed(wrong, 0, 0, 0));
            Due.isThrown("feed(0, " + wrong + ", 0, 0)", Due.ARGUMENT, () -> x.feed(0, wrong, 0, 0));
            Due.isThrown("feed(0, 0, " + wrong + ", 0)", Due.ARGUMENT, () -> x.feed(0, 0, wrong, 0));
            Due.isThrown("feed(0, 0, 0, " + wrong + ")", Due.ARGUMENT, () -> x.feed(0, 0, 0, wrong));
        }
        Due.isThrown("feed(-1, 0, 0, 0)", Due.ARGUMENT, () -> x.feed(-1, 0, 0, 0));
        Due.is("state(6)", x.state(6), 13);
    }

    private static void feedAtTheLimit() {
        BoardNotation x = new BoardNotation();
        for (int k = 0; k < 499; k++) {
            x.feed(k % 256, 1, 2, 3);
        }
        Due.is("state(6)", x.state(6), 1996);
        Due.is("feed of one", x.feed(1, -1, -1, -1), 1997);
        Due.isThrown("feed of four, one too many", Due.STATE, () -> x.feed(1, 1, 1, 1));
        Due.isThrown("feed of a wrong byte, one too many", Due.ARGUMENT, () -> x.feed(1, 1, 1, 256));
        Due.is("state(6) stays", x.state(6), 1997);
        Due.is("feed up to the limit", x.feed(5, 6, -1, 7), 2000);
        Due.isThrown("feed of one too many", Due.STATE, () -> x.feed(1, -1, -1, -1));
        Due.is("byteAt(1999)", x.byteAt(1999), 7);
        Due.isThrown("byteAt(2000)", Due.INDEX, () -> x.byteAt(2000));
    }

    private static void empty() {
        BoardNotation x = new BoardNotation();
        Due.is("empty() of nothing", x.empty(), 0);
        Due.feed(x, "Kb1");
        Due.is("empty()", x.empty(), 3);
        Due.is("state(6)", x.state(6), 0);
        Due.isThrown("byteAt(0)", Due.INDEX, () -> x.byteAt(0));
        Due.is("feed behind empty()", x.feed(65, -1, -1, -1), 1);
        Due.is("byteAt(0)", x.byteAt(0), 65);
        Due.is("empty() again", x.empty(), 1);
    }

    private static void formErrors() {
        String[] texts = {"", "K", "Ka", "K1", "Kx", "Kax", "K1x", "Ka1x", "Kab", "K1b", "Ka1b", "Kxa", "Kaxb",
            "K1xb", "Ka1xb"};
        for (String text : texts) {
            formError(text, text.length());
        }
        formError("k", 0);
        formError("@a1", 0);
        formError("[a1", 0);
        formError("a1", 0);
        formError(" Ka1", 0);
        formError("K a1", 1);
        formError("KK", 1);
        formError("Ki1", 1);
        formError("K`1", 1);
        formError("K0", 1);
        formError("K9", 1);
        formError("K+", 1);
        formError("Ka0", 2);
        formError("Ka9", 2);
        formError("K11", 2);
        formError("K1+", 2);
        formError("Ka+", 2);
        formError("Kxx", 2);
        formError("Kx1", 2);
        formError("Kabc", 3);
        formError("Kab+", 3);
        formError("Kaxx", 3);
        formError("Ka11", 3);
        formError("Ka1 ", 3);
        formError("K1ab", 3);
        formError("Ka1++", 4);
        formError("Ka1#+", 4);
        formError("Ka1+#", 4);
        formError("Ka1x1", 4);
        formError("Ka1bb", 4);
        formError("Kab1x", 4);
        formError("Kxb1x", 4);
        formError("Ka1b2c", 5);
        formError("Ka1b2x", 5);
        formError("Ka1xb2a", 6);
        formError("Ka1xb2+ ", 7);
        formError("Qa", 2);
        formError("Ka1" + (char) 225, 3);
    }

    private static void formError(String text, int place) {
        BoardNotation x = Due.chess();
        Due.is("read() of \"" + text + "\"", Due.read(x, text), 1);
        Due.is("found(0) of \"" + text + "\"", x.found(0), place);
        Due.isText("the tape behind read()", Due.tape(x), text);
    }

    /** The rook e8 pins the knight e2 to its king. */
    private static BoardNotation crowd() {
        BoardNotation x = Due.chess();
        Due.put(x, "e1", 0, 0);
        Due.put(x, "e2", 2, 0);
        Due.put(x, "b1", 2, 0);
        Due.put(x, "a1", 1, 0);
        Due.put(x, "a5", 1, 0);
        Due.put(x, "e8", 1, 1);
        Due.put(x, "h8", 0, 1);
        Due.put(x, "h4", 3, 1);
        return x;
    }

    private static void readErrors() {
        BoardNotation x = crowd();
        readIs(x, "Qa3", 2);
        readIs(x, "Za3", 2);
        readIs(x, "Rh7", 3);
        readIs(x, "Rb4", 3);
        readIs(x, "Ra1a1", 3);
        readIs(x, "Nbd4", 3);
        readIs(x, "N2a3", 3);
        readIs(x, "Nb2d2", 3);
        readIs(x, "Pa3", 3);
        readIs(x, "Nd4", 4);
        readIs(x, "Nec3", 4);
        readIs(x, "Ne2c3", 4);
        readIs(x, "Kf2", 0);
        readIs(x, "Ra3", 5);
        readIs(x, "Raa3", 5);
        readIs(x, "Rxa3", 5);
        readIs(x, "R1xa3", 6);
        readIs(x, "Nxa3", 6);
        x = crowd();
        readIs(x, "Rc5+", 7);
        readIs(x, "Rc5#", 7);
        readIs(x, "Rh5", 7);
        readIs(x, "Rh5#", 7);
        readIs(x, "Rh5+", 0);
        readIs(x, "R5a4", 0);
        readIs(x, "Nc3", 0);
        readIs(x, "N1c3", 0);
        readIs(x, "Nbc3", 0);
        readIs(x, "Nb1c3", 0);
        readIs(x, "Ra1a3", 0);
        readIs(x, "R1a3", 0);
    }

    private static void readIs(BoardNotation x, String text, int error) {
        int from = x.found(1);
        int to = x.found(2);
        Due.is("read() of \"" + text + "\"", Due.read(x, text), error);
        Due.is("found(0) of \"" + text + "\"", x.found(0), error == 0 ? -1 : 0);
        if (error != 0) {
            Due.is("found(1) stays behind \"" + text + "\"", x.found(1), from);
            Due.is("found(2) stays behind \"" + text + "\"", x.found(2), to);
        }
        Due.is("the node behind \"" + text + "\"", x.state(3), 0);
        Due.is("the nodes behind \"" + text + "\"", x.state(4), 1);
        Due.isText("the tape behind \"" + text + "\"", Due.tape(x), text);
    }

    /** The first error of several is told. */
    private static void readOrder() {
        BoardNotation x = crowd();
        Due.is("no such kind, wrong form", Due.read(x, "Qa3?"), 1);
        Due.is("two pieces, of which one is legal, and wrong signs", Due.read(x, "Nxc3#"), 6);
        Due.is("several legal, x and sign wrong", Due.read(x, "Rxa3#"), 5);
        Due.is("none legal, x and sign wrong", Due.read(x, "Nxd4#"), 4);
        Due.is("none reaches, x and sign wrong", Due.read(x, "Rxh7#"), 3);
        Due.is("a piece of the other side", Due.read(x, "Re7"), 3);
        Due.play(x, "e1", "f1");
        Due.is("side 1 now", Due.read(x, "Re7"), 0);
        Due.is("found(1)", x.found(1), Due.square("e8"));
        Due.is("the king stands aside", Due.read(x, "Rxe2"), 0);
        Due.is("x is missing", Due.read(x, "Re2"), 6);
        Due.is("pawns go down for side 1", Due.read(x, "Ph3"), 0);
        Due.is("pawns do not go up for side 1", Due.read(x, "Ph5"), 3);
    }

    private static void found() {
        BoardNotation x = crowd();
        Due.isThrown("found(-1)", Due.INDEX, () -> x.found(-1));
        Due.isThrown("found(3)", Due.INDEX, () -> x.found(3));
        founds(x, "first", -1, -1, -1);
        Due.read(x, "Ra");
        founds(x, "behind an error", 2, -1, -1);
        Due.read(x, "Nc3");
        founds(x, "behind Nc3", -1, Due.square("b1"), Due.square("c3"));
        Due.read(x, "Qc3");
        founds(x, "behind error 2", 0, Due.square("b1"), Due.square("c3"));
        Due.readGame(x, "Kf2 Kh7 Q");
        founds(x, "behind a game with an error", 8, Due.square("b1"), Due.square("c3"));
        Due.readGame(x, "Kf2 Kh7");
        founds(x, "behind a game", -1, Due.square("b1"), Due.square("c3"));
        Due.readGame(x, "Kf2 )");
        founds(x, "behind a wrong bracket", 4, Due.square("b1"), Due.square("c3"));
        x.clear();
        x.empty();
        x.writeGame();
        founds(x, "behind clear(), empty() and writeGame()", 4, Due.square("b1"), Due.square("c3"));
        Due.read(x, "Kf2");
        founds(x, "behind Kf2", -1, Due.square("e1"), Due.square("f2"));
    }

    private static void founds(BoardNotation x, String when, int place, int from, int to) {
        Due.is("found(0) " + when, x.found(0), place);
        Due.is("found(1) " + when, x.found(1), from);
        Due.is("found(2) " + when, x.found(2), to);
    }

    private static void write() {
        BoardNotation x = crowd();
        Due.isThrown("write(-1, 0)", Due.INDEX, () -> x.write(-1, 0));
        Due.isThrown("write(0, 64)", Due.INDEX, () -> x.write(0, 64));
        Due.feed(x, "old");
        Due.isThrown("write of no piece", Due.STATE,
                () -> x.write(Due.square("c1"), Due.square("c2")));
        Due.isThrown("write of the other's piece", Due.STATE,
                () -> x.write(Due.square("e8"), Due.square("e7")));
        Due.isThrown("write to a square that is not reached", Due.STATE,
                () -> x.write(Due.square("a1"), Due.square("b2")));
        Due.isThrown("write of a move that is not legal", Due.STATE,
                () -> x.write(Due.square("e2"), Due.square("c3")));
        Due.isText("the tape stays", Due.tape(x), "old");
        Due.isText("a move", Due.write(x, "e1", "f2"), "Kf2");
        Due.isText("a move to a8", Due.write(x, "a5", "a8"), "Ra8");
        Due.isText("the pinned knight is none of the others", Due.write(x, "b1", "c3"), "Nc3");
        Due.isText("of two rooks in a file", Due.write(x, "a1", "a3"), "R1a3");
        Due.isText("of two rooks in a file", Due.write(x, "a5", "a3"), "R5a3");
        Due.isText("a check", Due.write(x, "a5", "h5"), "Rh5+");
        Due.is("the node stays", x.state(3), 0);
        Due.is("nodes", x.state(4), 1);
        Due.play(x, "e1", "f1");
        Due.isText("a capture", Due.write(x, "e8", "e2"), "Rxe2");
        Due.isText("side 1", Due.write(x, "h4", "h3"), "Ph3");
    }

    private static void writeUnlike() {
        BoardNotation x = Due.chess();
        Due.put(x, "c3", 2, 0);
        Due.put(x, "c5", 2, 0);
        Due.put(x, "g3", 2, 0);
        Due.put(x, "e4", 1, 1);
        Due.isText("file and rank", Due.write(x, "c3", "e4"), "Nc3xe4");
        Due.isText("a rank is enough", Due.write(x, "c5", "e4"), "N5xe4");
        Due.isText("a file is enough", Due.write(x, "g3", "e4"), "Ngxe4");
        Due.isText("no others to this square", Due.write(x, "c3", "d5"), "Nd5");
        Due.put(x, "g3", 2, 1);
        Due.isText("a knight of the other side is none of the others", Due.write(x, "c3", "e4"), "N3xe4");
        Due.put(x, "g3", 1, 0);
        Due.isText("another kind is none of the others", Due.write(x, "c3", "e4"), "N3xe4");
        Due.put(x, "c5", -1, 0);
        Due.put(x, "g3", 2, 0);
        Due.put(x, "e4", -1, 0);
        Due.isText("the file goes first, in a rank", Due.write(x, "c3", "e4"), "Nce4");
        Due.put(x, "g3", -1, 0);
        Due.put(x, "g5", 2, 0);
        Due.isText("the file goes first, neither file nor rank", Due.write(x, "c3", "e4"), "Nce4");
        for (String square : new String[] {"a1", "a5", "e1"}) {
            Due.put(x, square, 1, 0);
        }
        Due.isText("two of three rooks reach a1's targets", Due.write(x, "a1", "c1"), "Rac1");
        Due.isText("the third does not stand in the file", Due.write(x, "a1", "a3"), "R1a3");
    }

    private static void writeSigns() {
        BoardNotation x = Due.chess();
        Due.put(x, "h8", 0, 1);
        Due.put(x, "g1", 1, 0);
        Due.put(x, "a7", 1, 0);
        Due.put(x, "b6", 1, 0);
        Due.isText("mate", Due.write(x, "a7", "h7"), "Rh7+");
        Due.isText("mate by a rook", Due.write(x, "b6", "h6"), "Rh6#");
        Due.isText("no check, and no legal move, is no sign", Due.write(x, "b6", "b5"), "Rb5");
        Due.is("read() of mate with +", Due.read(x, "Rh6+"), 7);
        Due.is("read() of mate without a sign", Due.read(x, "Rh6"), 7);
        Due.is("read() of mate", Due.read(x, "Rh6#"), 0);
        Due.is("read() of check with #", Due.read(x, "Rh7#"), 7);
        Due.is("read() of check", Due.read(x, "Rh7+"), 0);
        Due.play(x, "b6", "b5");
        Due.is("no check", x.state(1), 0);
        Due.is("no legal move", x.state(2), 0);
        BoardNotation y = Due.chess();
        Due.put(y, "e1", 1, 0);
        Due.put(y, "e4", 2, 0);
        Due.put(y, "e8", 0, 1);
        Due.isText("a check by the piece behind", Due.write(y, "e4", "c5"), "Nc5+");
        Due.put(y, "d6", 2, 1);
        Due.isText("a check with a capture", Due.write(y, "e4", "d6"), "Nxd6+");
        Due.put(y, "a8", 0, 0);
        Due.isText("an own royal piece in check is not legal, one behind it is no sign", Due.write(y, "a8", "a7"), "Ka7");
    }

    private static void byteAt() {
        BoardNotation x = crowd();
        Due.isThrown("byteAt(0) of nothing", Due.INDEX, () -> x.byteAt(0));
        Due.write(x, "a1", "a3");
        Due.is("byteAt(0)", x.byteAt(0), 82);
        Due.is("byteAt(1)", x.byteAt(1), 49);
        Due.is("byteAt(2)", x.byteAt(2), 97);
        Due.is("byteAt(3)", x.byteAt(3), 51);
        for (int k : new int[] {-1, 4, Integer.MIN_VALUE, Integer.MAX_VALUE}) {
            Due.isThrown("byteAt(" + k + ")", Due.INDEX, () -> x.byteAt(k));
        }
    }
}
