/** Boards and games that several tests share, made with few calls, and the texts of them. */
final class Boards {
    /** Far and near squares between which the rooks of shuttle() go, in the order of its moves. */
    private static final String[] SHUTTLE = {"a1", "a2", "h8", "h7", "a2", "a1", "h7", "h8"};

    private Boards() {
    }

    /** Kind 0 R, which goes along its file; R a1 of side 0 and R h8 of side 1 never meet. Five calls. */
    static BoardNotation columns() {
        BoardNotation x = new BoardNotation();
        x.addKind('R');
        x.addStep(0, 0, 1, 7);
        x.addStep(0, 0, -1, 7);
        x.put(0, 0, 0);
        x.put(63, 0, 1);
        return x;
    }

    /** Plays on from the node ahead to this node of a game in which the two rooks go to and fro. */
    static int shuttle(BoardNotation x, int node) {
        int k = (node - 1) % 4 * 2;
        return Due.play(x, SHUTTLE[k], SHUTTLE[k + 1]);
    }

    /** The columns with the line of the shuttle up to this node, which is present. */
    static BoardNotation line(int node) {
        BoardNotation x = columns();
        for (int k = 1; k <= node; k++) {
            shuttle(x, k);
        }
        return x;
    }

    /** The text of line(). */
    static String lineText(int moves) {
        StringBuilder text = new StringBuilder();
        for (int k = 0; k < moves; k++) {
            text.append(k == 0 ? "R" : " R").append(SHUTTLE[k % 4 * 2 + 1]);
        }
        return text.toString();
    }
}
