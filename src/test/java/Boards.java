import java.util.ArrayList;
import java.util.List;

/** Boards and games that several tests share, made with few calls, and the texts of them. */
final class Boards {
    /** Far and near squares between which the rooks of shuttle() go, in the order of its moves. */
    private static final String[] SHUTTLE = {"a1", "a2", "h8", "h7", "a2", "a1", "h7", "h8"};

    /** How many moves side 0 has in crowd(). */
    static final int CROWD_MOVES = 228;

    private Boards() {
    }

    /** Kind 0 R, which goes along its file; R a1 of side 0 and R h8 of side 1 never meet. Five calls. */
    static BoardNotation columns() {
        BoardNotation x = new BoardNotation();
        x.addKind('R');
        x.addStep(0, 0, 1, 7);
        x.addStep(0, 0, -1, 7);
        x.put(0, 0, 0);
        x.put(63, 0, 1);
        return x;
    }

    /** Plays on from the node ahead to this node of a game in which the two rooks go to and fro. */
    static int shuttle(BoardNotation x, int node) {
        int k = (node - 1) % 4 * 2;
        return Due.play(x, SHUTTLE[k], SHUTTLE[k + 1]);
    }

    /** The columns with the line of the shuttle up to this node, which is present. */
    static BoardNotation line(int node) {
        BoardNotation x = columns();
        for (int k = 1; k <= node; k++) {
            shuttle(x, k);
        }
        return x;
    }

    /** The text of line(). */
    static String lineText(int moves) {
        StringBuilder text = new StringBuilder();
        for (int k = 0; k < moves; k++) {
            text.append(k == 0 ? "R" : " R").append(SHUTTLE[k % 4 * 2 + 1]);
        }
        return text.toString();
    }

    /**
     * A full board: A of side 0 on the ranks 1 to 3, A of side 1 on 4 and 5, B of side 0 on 6 to 8, but K of
     * side 1 on h6, which three of the A reach. A leaps two and three ranks up, B down, from one file to the
     * left up to two to the right. 83 calls.
     */
    static BoardNotation crowd() {
        BoardNotation x = new BoardNotation();
        x.addKind('K');
        x.addKind('A');
        x.addKind('B');
        for (int dx = -1; dx <= 2; dx++) {
            for (int dy = 2; dy <= 3; dy++) {
                x.addStep(1, dx, dy, 1);
                x.addStep(2, dx, -dy, 1);
            }
        }
        for (int square = 0; square < 64; square++) {
            int there = crowdAt(square);
            x.put(square, there / 2, there % 2);
        }
        return x;
    }

    static int crowdAt(int square) {
        return square == 47 ? 1 : square < 24 ? 2 : square < 40 ? 3 : 4;
    }

    /**
     * The captures in crowd() that take as many bytes as a short form can: each of these pieces shares its
     * file and its rank with others that reach the same square, and K stays in check without a legal move.
     */
    static List<int[]> longestMoves() {
        List<int[]> moves = new ArrayList<>();
        for (int to = 24; to < 40; to++) {
            for (int dx = -1; dx <= 2; dx++) {
                int file = to % 8 - dx;
                for (int dy = 2; dy <= 3 && file >= 0 && file < 8; dy++) {
                    moves.add(new int[] {file + (to / 8 - dy) * 8, to});
                    // Where K stands in the place of a B, the others need fewer bytes.
                    if (to >= 32 || to % 8 < 6) {
                        moves.add(new int[] {file + (to / 8 + dy) * 8, to});
                    }
                }
            }
        }
        return moves;
    }

    static String longestForm(int from, int to) {
        return (from < 24 ? "A" : "B") + name(from) + "x" + name(to) + "#";
    }

    static String name(int square) {
        return "" + (char) ('a' + square % 8) + (char) ('1' + square / 8);
    }

    /** crowd() with the first 199 of longestMoves() below node 0, which is present. 481 calls. */
    static BoardNotation broad() {
        BoardNotation x = crowd();
        List<int[]> moves = longestMoves();
        for (int k = 0; k < 199; k++) {
            x.play(moves.get(k)[0], moves.get(k)[1]);
            x.goTo(0);
        }
        return x;
    }

    /** The text of broad(), the longest that a game can have. */
    static String broadText() {
        List<int[]> moves = longestMoves();
        StringBuilder text = new StringBuilder();
        for (int k = 0; k < 199; k++) {
            String form = longestForm(moves.get(k)[0], moves.get(k)[1]);
            text.append(k == 0 ? form : " (" + form + ")");
        }
        return text.toString();
    }
}
