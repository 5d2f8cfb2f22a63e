import java.util.ArrayList;
import java.util.HashSet;
import java.util.List;
import java.util.Set;
import java.util.regex.Matcher;
import java.util.regex.Pattern;

/**
 * The document once more, in other ways than the program: positions are played anew from the first
 * one, forms are read by a pattern, games are written by recursion.
 */
final class Model {
    private static final Pattern FORM = Pattern.compile("([A-Z])([a-h]?)([1-8]?)(x?)([a-h])([1-8])([+#]?)");

    static final class Kind {
        char letter;
        List<int[]> steps = new ArrayList<>();
    }

    static final class Node {
        Node above;
        int from = -1;
        int to = -1;
        int number;
        List<Node> below = new ArrayList<>();

        int moves() {
            return above == null ? 0 : above.moves() + 1;
        }

        int[] board(int[] first) {
            return above == null ? first.clone() : moved(above.board(first), from, to);
        }
    }

    List<Kind> kinds = new ArrayList<>();
    int[] first = new int[64];
    List<Node> nodes = new ArrayList<>();
    Node present;
    String tape = "";
    int[] found = {-1, -1, -1};

    Model() {
        java.util.Arrays.fill(first, -1);
        startAnew();
    }

    private void startAnew() {
        nodes.clear();
        present = new Node();
        nodes.add(present);
    }

    static int[] moved(int[] board, int from, int to) {
        int[] behind = board.clone();
        behind[to] = behind[from];
        behind[from] = -1;
        return behind;
    }

    int turn() {
        return present.moves() % 2;
    }

    int[] now() {
        return present.board(first);
    }

    Set<Integer> reached(int[] board, int from) {
        Set<Integer> squares = new HashSet<>();
        int side = board[from] & 1;
        for (int[] step : kinds.get(board[from] >> 1).steps) {
            int dy = side == 1 ? -step[1] : step[1];
            for (int times = 1; times <= step[2]; times++) {
                int file = from % 8 + times * step[0];
                int rank = from / 8 + times * dy;
                if (file < 0 || rank < 0 || file > 7 || rank > 7) {
                    break;
                }
                int there = board[8 * rank + file];
                if (there == -1 || (there & 1) != side) {
                    squares.add(8 * rank + file);
                }
                if (there != -1) {
                    break;
                }
            }
        }
        return squares;
    }

    boolean inCheck(int[] board, int side) {
        for (int from = 0; from < 64; from++) {
            if (board[from] >= 0 && (board[from] & 1) != side) {
                for (int to : reached(board, from)) {
                    if (board[to] == side) {
                        return true;
                    }
                }
            }
        }
        return false;
    }

    List<int[]> legal(int[] board, int side) {
        List<int[]> moves = new ArrayList<>();
        for (int from = 0; from < 64; from++) {
            if (board[from] >= 0 && (board[from] & 1) == side) {
                for (int to : reached(board, from)) {
                    if (!inCheck(moved(board, from, to), side)) {
                        moves.add(new int[] {from, to});
                    }
                }
            }
        }
        return moves;
    }

    private void squares(int... squares) {
        for (int square : squares) {
            if (square < 0 || square > 63) {
                throw new IndexOutOfBoundsException();
            }
        }
    }

    private void demand(boolean holds, RuntimeException otherwise) {
        if (!holds) {
            throw otherwise;
        }
    }

    int addKind(int letter) {
        demand(letter >= 'A' && letter <= 'Z', new IllegalArgumentException());
        for (Kind kind : kinds) {
            demand(kind.letter != letter, new IllegalArgumentException());
        }
        demand(kinds.size() < 6 && nodes.size() == 1, new IllegalStateException());
        Kind kind = new Kind();
        kind.letter = (char) letter;
        kinds.add(kind);
        return kinds.size() - 1;
    }

    int addStep(int kind, int dx, int dy, int reach) {
        demand(kind >= 0 && kind < kinds.size(), new IndexOutOfBoundsException());
        demand(dx >= -3 && dx <= 3 && dy >= -3 && dy <= 3, new IllegalArgumentException());
        demand((dx != 0 || dy != 0) && reach >= 1 && reach <= 7, new IllegalArgumentException());
        List<int[]> steps = kinds.get(kind).steps;
        demand(steps.size() < 8 && nodes.size() == 1, new IllegalStateException());
        steps.add(new int[] {dx, dy, reach});
        return steps.size();
    }

    int put(int square, int kind, int side) {
        squares(square);
        demand(kind >= -1 && kind < kinds.size(), new IndexOutOfBoundsException());
        demand(side == 0 || side == 1, new IllegalArgumentException());
        demand(nodes.size() == 1, new IllegalStateException());
        int before = first[square];
        first[square] = kind == -1 ? -1 : 2 * kind + side;
        return before;
    }

    int at(int square) {
        squares(square);
        return now()[square];
    }

    int state(int what) {
        demand(what >= 0 && what <= 6, new IndexOutOfBoundsException());
        return what == 0 ? turn()
                : what == 1 ? (inCheck(now(), turn()) ? 1 : 0)
                : what == 2 ? legal(now(), turn()).size()
                : what == 3 ? present.number
                : what == 4 ? nodes.size()
                : what == 5 ? kinds.size() : tape.length();
    }

    int reason(int from, int to) {
        squares(from, to);
        int[] board = now();
        if (board[from] == -1 || (board[from] & 1) != turn()) {
            return 1;
        }
        if (!reached(board, from).contains(to)) {
            return 2;
        }
        return inCheck(moved(board, from, to), turn()) ? 3 : 0;
    }

    int play(int from, int to) {
        demand(reason(from, to) == 0, new IllegalStateException());
        for (Node node : present.below) {
            if (node.from == from && node.to == to) {
                present = node;
                return node.number;
            }
        }
        demand(nodes.size() < 200, new IllegalStateException());
        Node node = new Node();
        node.above = present;
        node.from = from;
        node.to = to;
        node.number = nodes.size();
        nodes.add(node);
        present.below.add(node);
        present = node;
        return node.number;
    }

    int feed(int a, int b, int c, int d) {
        demand(a != -1, new IllegalArgumentException());
        StringBuilder more = new StringBuilder();
        for (int k : new int[] {a, b, c, d}) {
            demand(k >= -1 && k <= 255, new IllegalArgumentException());
            if (k >= 0) {
                more.append((char) k);
            }
        }
        demand(tape.length() + more.length() <= 2000, new IllegalStateException());
        tape += more;
        return tape.length();
    }

    int empty() {
        int before = tape.length();
        tape = "";
        return before;
    }

    /** The error, its place, from, to. */
    private int[] judge(String text) {
        for (int length = 1; length <= text.length(); length++) {
            Matcher start = FORM.matcher(text.substring(0, length));
            if (!start.matches() && !start.hitEnd()) {
                return new int[] {1, length - 1, -1, -1};
            }
        }
        Matcher form = FORM.matcher(text);
        if (!form.matches()) {
            return new int[] {1, text.length(), -1, -1};
        }
        int kind = -1;
        for (int k = 0; k < kinds.size(); k++) {
            kind = kinds.get(k).letter == text.charAt(0) ? k : kind;
        }
        if (kind == -1) {
            return new int[] {2, 0, -1, -1};
        }
        int[] board = now();
        int to = form.group(5).charAt(0) - 'a' + 8 * (form.group(6).charAt(0) - '1');
        List<Integer> reaching = new ArrayList<>();
        List<Integer> legal = new ArrayList<>();
        for (int from = 0; from < 64; from++) {
            String file = "" + (char) ('a' + from % 8);
            String rank = "" + (char) ('1' + from / 8);
            if (board[from] == 2 * kind + turn() && file.contains(form.group(2)) && rank.contains(form.group(3))
                    && reached(board, from).contains(to)) {
                reaching.add(from);
                if (reason(from, to) == 0) {
                    legal.add(from);
                }
            }
        }
        int error = reaching.isEmpty() ? 3 : legal.isEmpty() ? 4 : legal.size() > 1 ? 5
                : form.group(4).isEmpty() != (board[to] == -1) ? 6
                : !form.group(7).equals(sign(legal.get(0), to)) ? 7 : 0;
        return error == 0 ? new int[] {0, -1, legal.get(0), to} : new int[] {error, 0, -1, -1};
    }

    private String sign(int from, int to) {
        int[] behind = moved(now(), from, to);
        int other = 1 - turn();
        return !inCheck(behind, other) ? "" : legal(behind, other).isEmpty() ? "#" : "+";
    }

    int read() {
        int[] answer = judge(tape);
        found = answer[0] == 0 ? new int[] {-1, answer[2], answer[3]} : new int[] {answer[1], found[1], found[2]};
        return answer[0];
    }

    int found(int what) {
        demand(what >= 0 && what <= 2, new IndexOutOfBoundsException());
        return found[what];
    }

    String form(int from, int to) {
        int[] board = now();
        List<Integer> others = new ArrayList<>();
        for (int[] move : legal(board, turn())) {
            if (move[0] != from && move[1] == to && board[move[0]] == board[from]) {
                others.add(move[0]);
            }
        }
        String file = "" + (char) ('a' + from % 8);
        String rank = "" + (char) ('1' + from / 8);
        String origin = others.isEmpty() ? ""
                : others.stream().allMatch(other -> other % 8 != from % 8) ? file
                : others.stream().allMatch(other -> other / 8 != from / 8) ? rank : file + rank;
        return kinds.get(board[from] >> 1).letter + origin + (board[to] == -1 ? "" : "x")
                + (char) ('a' + to % 8) + (char) ('1' + to / 8) + sign(from, to);
    }

    int write(int from, int to) {
        demand(reason(from, to) == 0, new IllegalStateException());
        tape = form(from, to);
        return tape.length();
    }

    int byteAt(int k) {
        demand(k >= 0 && k < tape.length(), new IndexOutOfBoundsException());
        return tape.charAt(k);
    }

    private Node numbered(int node) {
        demand(node >= 0 && node < nodes.size(), new IndexOutOfBoundsException());
        return nodes.get(node);
    }

    int node(int node, int what) {
        Node here = numbered(node);
        demand(what >= 0 && what <= 4, new IndexOutOfBoundsException());
        return new int[] {here.above == null ? -1 : here.above.number, here.from, here.to, here.moves(),
            here.below.size()}[what];
    }

    int continuation(int node, int index) {
        Node here = numbered(node);
        demand(index >= 0 && index < here.below.size(), new IndexOutOfBoundsException());
        return here.below.get(index).number;
    }

    int goTo(int node) {
        present = numbered(node);
        return turn();
    }

    int promote(int node) {
        Node here = numbered(node);
        demand(node != 0, new IndexOutOfBoundsException());
        int place = here.above.below.indexOf(here);
        here.above.below.remove(place);
        here.above.below.add(0, here);
        return place;
    }

    private void say(StringBuilder text, String what) {
        if (text.length() > 0 && text.charAt(text.length() - 1) != '(' && !what.equals(")")) {
            text.append(' ');
        }
        text.append(what);
    }

    private String formOf(Node node) {
        Node stay = present;
        present = node.above;
        String form = form(node.from, node.to);
        present = stay;
        return form;
    }

    private void tellGame(StringBuilder text, Node node) {
        for (int k = 0; k < node.below.size(); k++) {
            if (k > 0) {
                say(text, "(");
            }
            say(text, formOf(node.below.get(k)));
            if (k > 0) {
                tellGame(text, node.below.get(k));
                say(text, ")");
            }
        }
        if (!node.below.isEmpty()) {
            tellGame(text, node.below.get(0));
        }
    }

    String game() {
        StringBuilder text = new StringBuilder();
        tellGame(text, nodes.get(0));
        return text.toString();
    }

    int writeGame() {
        String text = game();
        demand(text.length() <= 2000, new IllegalStateException());
        tape = text;
        return tape.length();
    }

    int readGame() {
        startAnew();
        List<Node> opened = new ArrayList<>();
        boolean due = false;
        Matcher parts = Pattern.compile("[()]|[^ ()]+", Pattern.DOTALL).matcher(tape);
        while (parts.find()) {
            String part = parts.group();
            int error = 0;
            if (part.equals("(")) {
                error = due || present.above == null ? 8 : 0;
                if (error == 0) {
                    opened.add(present);
                    present = present.above;
                    due = true;
                }
            } else if (part.equals(")")) {
                error = due || opened.isEmpty() ? 8 : 0;
                if (error == 0) {
                    present = opened.remove(opened.size() - 1);
                }
            } else {
                int[] answer = judge(part);
                error = answer[0];
                due = false;
                if (error == 0) {
                    try {
                        play(answer[2], answer[3]);
                    } catch (IllegalStateException e) {
                        error = 9;
                    }
                }
            }
            if (error != 0) {
                found[0] = parts.start();
                return error;
            }
        }
        found[0] = opened.isEmpty() ? -1 : tape.length();
        return opened.isEmpty() ? 0 : 8;
    }

    int clear() {
        int before = nodes.size();
        startAnew();
        return before;
    }

    double branching() {
        double sum = 0;
        int parents = 0;
        for (Node node : nodes) {
            sum += node.below.size();
            parents += node.below.isEmpty() ? 0 : 1;
        }
        return parents == 0 ? 0 : sum / parents;
    }

    long digest() {
        List<Integer> numbers = new ArrayList<>();
        for (int what = 0; what <= 6; what++) {
            numbers.add(state(what));
        }
        for (int there : now()) {
            numbers.add(there);
        }
        for (Node node : nodes) {
            for (int what = 0; what <= 4; what++) {
                numbers.add(node(node.number, what));
            }
            for (Node below : node.below) {
                numbers.add(below.number);
            }
        }
        for (char b : tape.toCharArray()) {
            numbers.add((int) b);
        }
        long d = 353;
        for (int x : numbers) {
            d = d * 31 + x;
        }
        return d;
    }
}
