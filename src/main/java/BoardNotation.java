import java.util.Arrays;

/**
 * A reader and writer of moves of board games that are told by their pieces.
 *
 * All rows are made in the constructor and used again, so that no call makes an object
 * (but for the exceptions that it throws).
 */
public final class BoardNotation {
    private static final int NONE = -1;

    private static final int KIND_LIMIT = 6;
    private static final int STEP_LIMIT = 8;
    private static final int STEP_WIDTH = 3;
    private static final int REACH_LIMIT = 7;
    private static final int ROYAL_KIND = 0;

    private static final int EDGE = 8;
    private static final int SQUARE_COUNT = 64;
    private static final int NODE_LIMIT = 200;
    /** A walk takes three turns a node at most: its move is written, it is gone into, it is left. */
    private static final int WALK_LIMIT = 4 * NODE_LIMIT;
    private static final int TAPE_LIMIT = 2000;

    private static final int BLANK = 32;
    private static final int MATE_SIGN = 35;
    private static final int OPENING = 40;
    private static final int CLOSING = 41;
    private static final int CHECK_SIGN = 43;
    private static final int FIRST_RANK = 49;
    private static final int FIRST_LETTER = 65;
    private static final int LAST_LETTER = 90;
    private static final int FIRST_FILE = 97;
    private static final int CAPTURE_SIGN = 120;
    private static final int LAST_BYTE = 255;

    private static final int NO_REASON = 0;
    private static final int NO_OWN_PIECE = 1;
    private static final int NOT_REACHED = 2;
    private static final int NOT_LEGAL = 3;

    private static final int NO_ERROR = 0;
    private static final int WRONG_FORM = 1;
    private static final int UNKNOWN_LETTER = 2;
    private static final int NONE_REACHES = 3;
    private static final int NONE_LEGAL = 4;
    private static final int SEVERAL_LEGAL = 5;
    private static final int WRONG_CAPTURE = 6;
    private static final int WRONG_CHECK = 7;
    private static final int WRONG_BRACKET = 8;
    private static final int TOO_MANY_NODES = 9;

    private static final int STATE_COUNT = 7;
    private static final int NODE_FACTS = 5;
    private static final long DIGEST_START = 353L;
    private static final long DIGEST_FACTOR = 31L;

    private final Kinds kinds;
    private final Board board;
    private final Tree tree;
    private final ShortForm form;
    private final int[] path;
    private final int[] bracketNodes;
    private Text tape;
    private Text draft;
    private int present;
    private int openBrackets;
    private boolean moveIsDue;
    private int judgedFrom;
    private int judgedTo;
    private int errorPlace;
    private int foundFrom;
    private int foundTo;

    public BoardNotation() {
        kinds = new Kinds();
        board = new Board(kinds);
        tree = new Tree();
        form = new ShortForm();
        path = new int[NODE_LIMIT];
        bracketNodes = new int[TAPE_LIMIT];
        tape = new Text();
        draft = new Text();
        present = 0;
        openBrackets = 0;
        moveIsDue = false;
        judgedFrom = NONE;
        judgedTo = NONE;
        errorPlace = NONE;
        foundFrom = NONE;
        foundTo = NONE;
    }

    // ---- kinds and pieces

    public int addKind(int letter) throws IllegalArgumentException, IllegalStateException {
        if (letter < FIRST_LETTER || letter > LAST_LETTER || kinds.withLetter(letter) != NONE) {
            throw new IllegalArgumentException("the letter is not 65 to 90, or a kind has it");
        }
        if (kinds.size() >= KIND_LIMIT || tree.size() > 1) {
            throw new IllegalStateException("there are 6 kinds, or other nodes than node 0");
        }
        return kinds.include(letter);
    }

    public int addStep(int kind, int dx, int dy, int reach)
            throws IndexOutOfBoundsException, IllegalArgumentException, IllegalStateException {
        if (!kinds.has(kind)) {
            throw new IndexOutOfBoundsException("there is no such kind");
        }
        if (!isStep(dx, dy) || reach < 1 || reach > REACH_LIMIT) {
            throw new IllegalArgumentException("this is no step, or the reach is not 1 to 7");
        }
        if (kinds.stepCount(kind) >= STEP_LIMIT || tree.size() > 1) {
            throw new IllegalStateException("the kind has 8 steps, or there are other nodes than node 0");
        }
        return kinds.includeStep(kind, dx, dy, reach);
    }

    public int put(int square, int kind, int side)
            throws IndexOutOfBoundsException, IllegalArgumentException, IllegalStateException {
        if (!isSquare(square) || (kind != NONE && !kinds.has(kind))) {
            throw new IndexOutOfBoundsException("there is no such square, or no such kind");
        }
        if (side != 0 && side != 1) {
            throw new IllegalArgumentException("the side is not 0 or 1");
        }
        if (tree.size() > 1) {
            throw new IllegalStateException("there are other nodes than node 0");
        }
        return board.replace(square, kind == NONE ? NONE : 2 * kind + side);
    }

    // ---- the present position

    public int at(int square) throws IndexOutOfBoundsException {
        if (!isSquare(square)) {
            throw new IndexOutOfBoundsException("there is no such square");
        }
        return board.pieceOn(square);
    }

    public int state(int what) throws IndexOutOfBoundsException {
        switch (what) {
            case 0:
                return turn();
            case 1:
                return board.inCheck(turn()) ? 1 : 0;
            case 2:
                return board.countLegalMoves(turn(), SQUARE_COUNT * SQUARE_COUNT);
            case 3:
                return present;
            case 4:
                return tree.size();
            case 5:
                return kinds.size();
            case 6:
                return tape.size();
            default:
                throw new IndexOutOfBoundsException("what is not 0 to 6");
        }
    }

    public int reason(int from, int to) throws IndexOutOfBoundsException {
        if (!isSquare(from) || !isSquare(to)) {
            throw new IndexOutOfBoundsException("there is no such square");
        }
        return reasonAgainst(from, to);
    }

    public int play(int from, int to) throws IndexOutOfBoundsException, IllegalStateException {
        if (!isSquare(from) || !isSquare(to)) {
            throw new IndexOutOfBoundsException("there is no such square");
        }
        if (reasonAgainst(from, to) != NO_REASON) {
            throw new IllegalStateException("this is no legal move");
        }
        if (!follow(from, to)) {
            throw new IllegalStateException("there would be more than 200 nodes");
        }
        return present;
    }

    // ---- short forms

    public int feed(int a, int b, int c, int d) throws IllegalArgumentException, IllegalStateException {
        if (a < 0 || a > LAST_BYTE || !isByteOrNothing(b) || !isByteOrNothing(c) || !isByteOrNothing(d)) {
            throw new IllegalArgumentException("this is no byte");
        }
        int more = 1 + countByte(b) + countByte(c) + countByte(d);
        if (tape.size() + more > TAPE_LIMIT) {
            throw new IllegalStateException("there would be more than 2000 bytes");
        }
        tape.append(a);
        appendUnlessNothing(b);
        appendUnlessNothing(c);
        appendUnlessNothing(d);
        return tape.size();
    }

    public int empty() {
        int before = tape.size();
        tape.wipe();
        return before;
    }

    public int read() {
        int error = judge(0, tape.size());
        if (error == NO_ERROR) {
            errorPlace = NONE;
            foundFrom = judgedFrom;
            foundTo = judgedTo;
        } else {
            errorPlace = error == WRONG_FORM ? form.misfit() : 0;
        }
        return error;
    }

    public int found(int what) throws IndexOutOfBoundsException {
        switch (what) {
            case 0:
                return errorPlace;
            case 1:
                return foundFrom;
            case 2:
                return foundTo;
            default:
                throw new IndexOutOfBoundsException("what is not 0 to 2");
        }
    }

    public int write(int from, int to) throws IndexOutOfBoundsException, IllegalStateException {
        if (!isSquare(from) || !isSquare(to)) {
            throw new IndexOutOfBoundsException("there is no such square");
        }
        if (reasonAgainst(from, to) != NO_REASON) {
            throw new IllegalStateException("this is no legal move");
        }
        tape.wipe();
        writeMove(tape, from, to);
        return tape.size();
    }

    public int byteAt(int k) throws IndexOutOfBoundsException {
        if (k < 0 || k >= tape.size()) {
            throw new IndexOutOfBoundsException("there is no such place on the tape");
        }
        return tape.get(k);
    }

    // ---- games

    public int node(int node, int what) throws IndexOutOfBoundsException {
        if (!tree.has(node) || what < 0 || what >= NODE_FACTS) {
            throw new IndexOutOfBoundsException("there is no such node, or what is not 0 to 4");
        }
        return tree.fact(node, what);
    }

    public int continuation(int node, int index) throws IndexOutOfBoundsException {
        if (!tree.has(node) || index < 0 || index >= tree.childCount(node)) {
            throw new IndexOutOfBoundsException("there is no such node or continuation");
        }
        return tree.child(node, index);
    }

    public int goTo(int node) throws IndexOutOfBoundsException {
        if (!tree.has(node)) {
            throw new IndexOutOfBoundsException("there is no such node");
        }
        visit(node);
        return turn();
    }

    public int promote(int node) throws IndexOutOfBoundsException {
        if (!tree.has(node) || node == 0) {
            throw new IndexOutOfBoundsException("there is no such node, or it is node 0");
        }
        return tree.makeMain(node);
    }

    public int writeGame() throws IllegalStateException {
        int stay = present;
        visit(0);
        draft.wipe();
        int place = 0;
        for (int turns = 0; turns < WALK_LIMIT && place != NONE; turns++) {
            int child = tree.child(present, place);
            if (child != NONE) {
                writeOpening(place);
                draft.separate();
                writeMove(draft, tree.from(child), tree.to(child));
            }
            place = goOn(place, child);
        }
        visit(stay);
        if (draft.hasSpilled()) {
            throw new IllegalStateException("there would be more than 2000 bytes");
        }
        Text old = tape;
        tape = draft;
        draft = old;
        return tape.size();
    }

    public int readGame() {
        beginAnew();
        openBrackets = 0;
        moveIsDue = false;
        errorPlace = NONE;
        int error = NO_ERROR;
        for (int place = 0; place < tape.size() && error == NO_ERROR; place++) {
            if (tape.get(place) == OPENING) {
                error = openVariation();
            } else if (tape.get(place) == CLOSING) {
                error = closeVariation();
            } else if (tape.isWordStart(place)) {
                error = judge(place, tape.wordEnd(place));
                if (error == NO_ERROR && !follow(judgedFrom, judgedTo)) {
                    error = TOO_MANY_NODES;
                }
                moveIsDue = false;
            }
            errorPlace = error == NO_ERROR ? NONE : place;
        }
        if (error == NO_ERROR && openBrackets > 0) {
            error = WRONG_BRACKET;
            errorPlace = tape.size();
        }
        return error;
    }

    public int clear() {
        int before = tree.size();
        beginAnew();
        return before;
    }

    public double branching() {
        int parents = 0;
        for (int node = 0; node < tree.size(); node++) {
            if (tree.childCount(node) > 0) {
                parents++;
            }
        }
        // Each node but node 0 is a continuation of just one node.
        return parents == 0 ? 0.0 : (double) (tree.size() - 1) / (double) parents;
    }

    public long digest() {
        long d = DIGEST_START;
        for (int what = 0; what < STATE_COUNT; what++) {
            d = d * DIGEST_FACTOR + state(what);
        }
        for (int square = 0; square < SQUARE_COUNT; square++) {
            d = d * DIGEST_FACTOR + board.pieceOn(square);
        }
        for (int node = 0; node < tree.size(); node++) {
            d = digestNode(d, node);
        }
        for (int k = 0; k < tape.size(); k++) {
            d = d * DIGEST_FACTOR + tape.get(k);
        }
        return d;
    }

    // ---- arguments

    private static boolean isSquare(int square) {
        return square >= 0 && square < SQUARE_COUNT;
    }

    private static boolean isStep(int dx, int dy) {
        return dx >= -STEP_WIDTH && dx <= STEP_WIDTH && dy >= -STEP_WIDTH && dy <= STEP_WIDTH
                && (dx != 0 || dy != 0);
    }

    private static boolean isByteOrNothing(int b) {
        return b >= NONE && b <= LAST_BYTE;
    }

    private static int countByte(int b) {
        return b == NONE ? 0 : 1;
    }

    private void appendUnlessNothing(int b) {
        if (b != NONE) {
            tape.append(b);
        }
    }

    // ---- the present node

    private int turn() {
        return tree.depth(present) % 2;
    }

    private int reasonAgainst(int from, int to) {
        if (!board.isOf(from, turn())) {
            return NO_OWN_PIECE;
        }
        if (!board.reaches(from, to)) {
            return NOT_REACHED;
        }
        return board.keepsRoyalsSafe(from, to) ? NO_REASON : NOT_LEGAL;
    }

    private void stepDown(int node) {
        tree.keepTaken(node, board.move(tree.from(node), tree.to(node)));
        present = node;
    }

    private void stepUp() {
        if (present != 0) {
            board.takeBack(tree.from(present), tree.to(present), tree.taken(present));
            present = tree.above(present);
        }
    }

    private void visit(int node) {
        for (int left = tree.depth(present); left > 0; left--) {
            stepUp();
        }
        int length = tree.depth(node);
        int stop = node;
        for (int k = 0; k < length && k < path.length; k++) {
            path[k] = stop;
            stop = tree.above(stop);
        }
        for (int k = Math.min(length, path.length) - 1; k >= 0; k--) {
            stepDown(path[k]);
        }
    }

    private void beginAnew() {
        visit(0);
        tree.cutToRoot();
    }

    /** Goes to the node of the move, a new one if need be; false if there is no room for it. */
    private boolean follow(int from, int to) {
        int node = tree.childOfMove(present, from, to);
        if (node == NONE) {
            if (tree.size() >= NODE_LIMIT) {
                return false;
            }
            node = tree.grow(present, from, to);
        }
        stepDown(node);
        return true;
    }

    // ---- reading

    /** Reads a part of the tape as a move, which judgedFrom and judgedTo tell then; returns the error. */
    private int judge(int start, int end) {
        if (!form.fits(tape, start, end)) {
            return WRONG_FORM;
        }
        int kind = kinds.withLetter(form.letter());
        if (kind == NONE) {
            return UNKNOWN_LETTER;
        }
        int piece = 2 * kind + turn();
        int to = form.to();
        int reaching = 0;
        int legal = 0;
        int from = NONE;
        for (int square = 0; square < SQUARE_COUNT; square++) {
            if (board.pieceOn(square) == piece && form.allowsFrom(square) && board.reaches(square, to)) {
                reaching++;
                if (board.keepsRoyalsSafe(square, to)) {
                    legal++;
                    from = square;
                }
            }
        }
        if (legal != 1) {
            return reaching == 0 ? NONE_REACHES : legal == 0 ? NONE_LEGAL : SEVERAL_LEGAL;
        }
        if (form.captures() != board.isTaken(to)) {
            return WRONG_CAPTURE;
        }
        if (form.sign() != board.signBehind(from, to)) {
            return WRONG_CHECK;
        }
        judgedFrom = from;
        judgedTo = to;
        return NO_ERROR;
    }

    private int openVariation() {
        if (moveIsDue || present == 0 || openBrackets >= bracketNodes.length) {
            return WRONG_BRACKET;
        }
        bracketNodes[openBrackets] = present;
        openBrackets++;
        stepUp();
        moveIsDue = true;
        return NO_ERROR;
    }

    private int closeVariation() {
        if (moveIsDue || openBrackets <= 0 || openBrackets > bracketNodes.length) {
            return WRONG_BRACKET;
        }
        openBrackets--;
        visit(bracketNodes[openBrackets]);
        return NO_ERROR;
    }

    // ---- writing

    private void writeMove(Text text, int from, int to) {
        int piece = board.pieceOn(from);
        text.append(kinds.letter(piece / 2));
        writeOrigin(text, piece, from, to);
        if (board.isTaken(to)) {
            text.append(CAPTURE_SIGN);
        }
        text.append(FIRST_FILE + to % EDGE);
        text.append(FIRST_RANK + to / EDGE);
        int sign = board.signBehind(from, to);
        if (sign != NONE) {
            text.append(sign);
        }
    }

    private void writeOrigin(Text text, int piece, int from, int to) {
        boolean others = false;
        boolean sameFile = false;
        boolean sameRank = false;
        for (int square = 0; square < SQUARE_COUNT; square++) {
            if (square != from && board.pieceOn(square) == piece
                    && board.reaches(square, to) && board.keepsRoyalsSafe(square, to)) {
                others = true;
                sameFile = sameFile || square % EDGE == from % EDGE;
                sameRank = sameRank || square / EDGE == from / EDGE;
            }
        }
        if (others && (!sameFile || sameRank)) {
            text.append(FIRST_FILE + from % EDGE);
        }
        if (sameFile) {
            text.append(FIRST_RANK + from / EDGE);
        }
    }

    private void writeOpening(int place) {
        if (place > 0) {
            draft.separate();
            draft.append(OPENING);
        }
    }

    /**
     * Goes on in the tree behind the continuation at the place, whose move is written now; the place
     * behind the last one, without a child, is that at which the main move is gone into at last.
     * It is no recursion, since a game may be as deep as it has nodes. Returns the next place at the
     * present node; -1 at the end of all.
     */
    private int goOn(int place, int child) {
        if (place == 0 && child != NONE) {
            return 1;
        }
        int below = child == NONE ? tree.child(present, 0) : child;
        if (below == NONE) {
            return leaveLine();
        }
        stepDown(below);
        return 0;
    }

    /** Goes up to where the line at whose end we are began; returns what comes next there, -1 at the end of all. */
    private int leaveLine() {
        for (int left = tree.depth(present); left > 0; left--) {
            int place = tree.placeOf(present);
            stepUp();
            if (place > 0) {
                draft.append(CLOSING);
                return place + 1;
            }
        }
        return NONE;
    }

    private long digestNode(long start, int node) {
        long d = start;
        for (int what = 0; what < NODE_FACTS; what++) {
            d = d * DIGEST_FACTOR + tree.fact(node, what);
        }
        for (int index = 0; index < tree.childCount(node); index++) {
            d = d * DIGEST_FACTOR + tree.child(node, index);
        }
        return d;
    }

    /** The kinds of pieces with their letters and steps; the steps of a kind lie side by side. */
    private static final class Kinds {
        private final int[] letters = new int[KIND_LIMIT];
        private final int[] stepCounts = new int[KIND_LIMIT];
        private final int[] stepX = new int[KIND_LIMIT * STEP_LIMIT];
        private final int[] stepY = new int[KIND_LIMIT * STEP_LIMIT];
        private final int[] stepReach = new int[KIND_LIMIT * STEP_LIMIT];
        private int size = 0;

        int size() {
            return size;
        }

        boolean has(int kind) {
            return kind >= 0 && kind < size;
        }

        int letter(int kind) {
            return has(kind) ? letters[kind] : NONE;
        }

        int stepCount(int kind) {
            return has(kind) ? stepCounts[kind] : 0;
        }

        int withLetter(int letter) {
            for (int kind = 0; kind < size; kind++) {
                if (letters[kind] == letter) {
                    return kind;
                }
            }
            return NONE;
        }

        int include(int letter) {
            if (size >= letters.length) {
                return NONE;
            }
            letters[size] = letter;
            size++;
            return size - 1;
        }

        int includeStep(int kind, int dx, int dy, int reach) {
            if (!has(kind) || stepCounts[kind] >= STEP_LIMIT) {
                return NONE;
            }
            int step = kind * STEP_LIMIT + stepCounts[kind];
            stepX[step] = dx;
            stepY[step] = dy;
            stepReach[step] = reach;
            stepCounts[kind]++;
            return stepCounts[kind];
        }
    }

    /** A position: a piece is 2 * its kind + its side. Sets of squares are bits of a long. */
    private static final class Board {
        private final Kinds kinds;
        private final int[] pieces = new int[SQUARE_COUNT];

        Board(Kinds kinds) {
            this.kinds = kinds;
            Arrays.fill(pieces, NONE);
        }

        int pieceOn(int square) {
            return isSquare(square) ? pieces[square] : NONE;
        }

        boolean isTaken(int square) {
            return pieceOn(square) != NONE;
        }

        boolean isOf(int square, int side) {
            return isTaken(square) && pieceOn(square) % 2 == side;
        }

        int replace(int square, int piece) {
            if (!isSquare(square)) {
                return NONE;
            }
            int before = pieces[square];
            pieces[square] = piece;
            return before;
        }

        /** Returns the piece that was captured, which takeBack() wants. */
        int move(int from, int to) {
            if (!isSquare(from) || !isSquare(to)) {
                return NONE;
            }
            int taken = pieces[to];
            pieces[to] = pieces[from];
            pieces[from] = NONE;
            return taken;
        }

        void takeBack(int from, int to, int taken) {
            if (isSquare(from) && isSquare(to)) {
                pieces[from] = pieces[to];
                pieces[to] = taken;
            }
        }

        boolean reaches(int from, int to) {
            return isSquare(to) && (reachedFrom(from) >>> to & 1L) != 0L;
        }

        private long reachedFrom(int from) {
            if (from < 0 || from >= SQUARE_COUNT) {
                return 0L;
            }
            int piece = pieces[from];
            if (piece < 0 || piece / 2 >= kinds.size) {
                return 0L;
            }
            int side = piece % 2;
            int first = piece / 2 * STEP_LIMIT;
            int end = first + kinds.stepCounts[piece / 2];
            long reached = 0L;
            for (int step = first; step < end; step++) {
                int dx = kinds.stepX[step];
                int dy = side == 0 ? kinds.stepY[step] : -kinds.stepY[step];
                int file = from % EDGE + dx;
                int rank = from / EDGE + dy;
                int left = kinds.stepReach[step];
                while (left > 0 && file >= 0 && file < EDGE && rank >= 0 && rank < EDGE) {
                    int square = rank * EDGE + file;
                    int there = pieces[square];
                    if (there == NONE || there % 2 != side) {
                        reached |= 1L << square;
                    }
                    left = there == NONE ? left - 1 : 0;
                    file += dx;
                    rank += dy;
                }
            }
            return reached;
        }

        private long royalsOf(int side) {
            long royals = 0L;
            for (int square = 0; square < SQUARE_COUNT; square++) {
                if (pieces[square] == 2 * ROYAL_KIND + side) {
                    royals |= 1L << square;
                }
            }
            return royals;
        }

        boolean inCheck(int side) {
            long royals = royalsOf(side);
            boolean check = false;
            for (int square = 0; square < SQUARE_COUNT && royals != 0L && !check; square++) {
                if (pieces[square] != NONE && pieces[square] % 2 != side) {
                    check = (reachedFrom(square) & royals) != 0L;
                }
            }
            return check;
        }

        /** Whether a move to a square that the piece reaches is legal. */
        boolean keepsRoyalsSafe(int from, int to) {
            int side = pieceOn(from) % 2;
            int taken = move(from, to);
            boolean safe = !inCheck(side);
            takeBack(from, to, taken);
            return safe;
        }

        /** Counts no further than to the limit. */
        int countLegalMoves(int side, int limit) {
            int count = 0;
            for (int from = 0; from < SQUARE_COUNT && count < limit; from++) {
                long reached = pieces[from] != NONE && pieces[from] % 2 == side ? reachedFrom(from) : 0L;
                for (int to = 0; to < SQUARE_COUNT && reached >>> to != 0L && count < limit; to++) {
                    if ((reached >>> to & 1L) != 0L && keepsRoyalsSafe(from, to)) {
                        count++;
                    }
                }
            }
            return count;
        }

        /** The sign behind the short form of the move; -1 for none. */
        int signBehind(int from, int to) {
            int other = 1 - pieceOn(from) % 2;
            int taken = move(from, to);
            int sign = NONE;
            if (inCheck(other)) {
                sign = countLegalMoves(other, 1) > 0 ? CHECK_SIGN : MATE_SIGN;
            }
            takeBack(from, to, taken);
            return sign;
        }
    }

    /** The nodes of a game; the continuations of a node are a chain of numbers. */
    private static final class Tree {
        private final int[] above = new int[NODE_LIMIT];
        private final int[] from = new int[NODE_LIMIT];
        private final int[] to = new int[NODE_LIMIT];
        private final int[] taken = new int[NODE_LIMIT];
        private final int[] depth = new int[NODE_LIMIT];
        private final int[] childCount = new int[NODE_LIMIT];
        private final int[] firstChild = new int[NODE_LIMIT];
        private final int[] nextBeside = new int[NODE_LIMIT];
        private int size = 0;

        Tree() {
            occupy(NONE, NONE, NONE, 0);
        }

        private int occupy(int nodeAbove, int squareFrom, int squareTo, int moves) {
            if (size >= NODE_LIMIT) {
                return NONE;
            }
            above[size] = nodeAbove;
            from[size] = squareFrom;
            to[size] = squareTo;
            taken[size] = NONE;
            depth[size] = moves;
            childCount[size] = 0;
            firstChild[size] = NONE;
            nextBeside[size] = NONE;
            size++;
            return size - 1;
        }

        int size() {
            return size;
        }

        boolean has(int node) {
            return node >= 0 && node < size;
        }

        int above(int node) {
            return has(node) ? above[node] : NONE;
        }

        int from(int node) {
            return has(node) ? from[node] : NONE;
        }

        int to(int node) {
            return has(node) ? to[node] : NONE;
        }

        int taken(int node) {
            return has(node) ? taken[node] : NONE;
        }

        int depth(int node) {
            return has(node) ? depth[node] : 0;
        }

        int childCount(int node) {
            return has(node) ? childCount[node] : 0;
        }

        void keepTaken(int node, int piece) {
            if (has(node)) {
                taken[node] = piece;
            }
        }

        /** What the face's node() tells. */
        int fact(int node, int what) {
            switch (what) {
                case 0:
                    return above(node);
                case 1:
                    return from(node);
                case 2:
                    return to(node);
                case 3:
                    return depth(node);
                default:
                    return childCount(node);
            }
        }

        int child(int node, int index) {
            if (!has(node) || index < 0 || index >= childCount[node]) {
                return NONE;
            }
            int child = firstChild[node];
            for (int k = 0; k < index && has(child); k++) {
                child = nextBeside[child];
            }
            return child;
        }

        int childOfMove(int node, int squareFrom, int squareTo) {
            int child = child(node, 0);
            for (int k = 0; k < childCount(node) && has(child); k++) {
                if (from[child] == squareFrom && to[child] == squareTo) {
                    return child;
                }
                child = nextBeside[child];
            }
            return NONE;
        }

        int grow(int node, int squareFrom, int squareTo) {
            int last = child(node, childCount(node) - 1);
            int grown = has(node) ? occupy(node, squareFrom, squareTo, depth[node] + 1) : NONE;
            if (grown == NONE) {
                return NONE;
            }
            if (has(last)) {
                nextBeside[last] = grown;
            } else {
                firstChild[node] = grown;
            }
            childCount[node]++;
            return grown;
        }

        int placeOf(int node) {
            int beside = child(above(node), 0);
            for (int place = 0; place < childCount(above(node)) && has(beside); place++) {
                if (beside == node) {
                    return place;
                }
                beside = nextBeside[beside];
            }
            return NONE;
        }

        /** Returns the node's place before. */
        int makeMain(int node) {
            int place = placeOf(node);
            int parent = above(node);
            int ahead = child(parent, place - 1);
            if (has(node) && has(parent) && has(ahead)) {
                nextBeside[ahead] = nextBeside[node];
                nextBeside[node] = firstChild[parent];
                firstChild[parent] = node;
            }
            return place;
        }

        void cutToRoot() {
            size = 0;
            occupy(NONE, NONE, NONE, 0);
        }
    }

    /** A row of bytes, up to the limit of the tape; what goes beyond it is lost, and told by hasSpilled(). */
    private static final class Text {
        private final int[] bytes = new int[TAPE_LIMIT];
        private int size = 0;
        private boolean spilled = false;

        int size() {
            return size;
        }

        boolean hasSpilled() {
            return spilled;
        }

        int get(int place) {
            return place >= 0 && place < size ? bytes[place] : NONE;
        }

        void wipe() {
            size = 0;
            spilled = false;
        }

        void append(int b) {
            if (size < bytes.length) {
                bytes[size] = b;
                size++;
            } else {
                spilled = true;
            }
        }

        /** Appends the blank that stands ahead of a move and of a bracket that opens. */
        void separate() {
            if (size > 0 && get(size - 1) != OPENING) {
                append(BLANK);
            }
        }

        private boolean isOfWord(int place) {
            int b = get(place);
            return b != NONE && b != BLANK && b != OPENING && b != CLOSING;
        }

        boolean isWordStart(int place) {
            return isOfWord(place) && !isOfWord(place - 1);
        }

        int wordEnd(int start) {
            int end = start;
            while (end < size && isOfWord(end)) {
                end++;
            }
            return end;
        }
    }

    /** The parts of a short form that is read. The states tell what has been read so far. */
    private static final class ShortForm {
        private static final int NOT_ANY_MORE = -1;
        private static final int NOTHING = 0;
        private static final int LETTER = 1;
        private static final int FILE = 2;
        private static final int RANK = 3;
        /** A square, which may be the one from which the move comes, or that to which it goes. */
        private static final int SQUARE = 4;
        private static final int CAPTURE = 5;
        private static final int TARGET_FILE = 6;
        private static final int TARGET = 7;
        private static final int SIGN = 8;

        private int misfit = NONE;
        private int letter = NONE;
        private int fromFile = NONE;
        private int fromRank = NONE;
        private int toFile = NONE;
        private int toRank = NONE;
        private int sign = NONE;
        private boolean captures = false;

        /** The place at which the latest text ceased to fit; -1 if it fitted. */
        int misfit() {
            return misfit;
        }

        int letter() {
            return letter;
        }

        int to() {
            return toRank * EDGE + toFile;
        }

        int sign() {
            return sign;
        }

        boolean captures() {
            return captures;
        }

        boolean allowsFrom(int square) {
            return (fromFile == NONE || fromFile == square % EDGE)
                    && (fromRank == NONE || fromRank == square / EDGE);
        }

        boolean fits(Text text, int start, int end) {
            forget();
            int state = NOTHING;
            for (int place = start; place < end && misfit == NONE; place++) {
                state = stateBehind(state, text.get(place));
                if (state == NOT_ANY_MORE) {
                    misfit = place;
                } else {
                    keep(text.get(place));
                }
            }
            if (misfit == NONE && state != SQUARE && state != TARGET && state != SIGN) {
                misfit = end;
            }
            return misfit == NONE;
        }

        private void forget() {
            misfit = NONE;
            letter = NONE;
            fromFile = NONE;
            fromRank = NONE;
            toFile = NONE;
            toRank = NONE;
            sign = NONE;
            captures = false;
        }

        /** A file or rank is that of the target until another one comes, which shows that it was not. */
        private void keep(int b) {
            if (isFile(b)) {
                fromFile = toFile;
                toFile = b - FIRST_FILE;
            } else if (isRank(b)) {
                fromRank = toRank;
                toRank = b - FIRST_RANK;
            } else if (isSign(b)) {
                sign = b;
            } else if (b == CAPTURE_SIGN) {
                captures = true;
            } else {
                letter = b;
            }
        }

        private static int stateBehind(int state, int b) {
            switch (state) {
                case NOTHING:
                    return b >= FIRST_LETTER && b <= LAST_LETTER ? LETTER : NOT_ANY_MORE;
                case LETTER:
                    return isFile(b) ? FILE : isRank(b) ? RANK : b == CAPTURE_SIGN ? CAPTURE : NOT_ANY_MORE;
                case FILE:
                    return isRank(b) ? SQUARE : stateBehindOrigin(b);
                case RANK:
                    return stateBehindOrigin(b);
                case SQUARE:
                    return isSign(b) ? SIGN : stateBehindOrigin(b);
                case CAPTURE:
                    return isFile(b) ? TARGET_FILE : NOT_ANY_MORE;
                case TARGET_FILE:
                    return isRank(b) ? TARGET : NOT_ANY_MORE;
                case TARGET:
                    return isSign(b) ? SIGN : NOT_ANY_MORE;
                default:
                    return NOT_ANY_MORE;
            }
        }

        private static int stateBehindOrigin(int b) {
            return isFile(b) ? TARGET_FILE : b == CAPTURE_SIGN ? CAPTURE : NOT_ANY_MORE;
        }

        private static boolean isFile(int b) {
            return b >= FIRST_FILE && b < FIRST_FILE + EDGE;
        }

        private static boolean isRank(int b) {
            return b >= FIRST_RANK && b < FIRST_RANK + EDGE;
        }

        private static boolean isSign(int b) {
            return b == CHECK_SIGN || b == MATE_SIGN;
        }
    }
}
