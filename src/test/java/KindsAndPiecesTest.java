/** Promises 1 to 4: a new object, addKind, addStep, put. */
public final class KindsAndPiecesTest {
    public static void main(String[] args) {
        newObject();
        addKind();
        addStep();
        addStepOrder();
        put();
        putOrder();
        Due.end();
    }

    private static void newObject() {
        BoardNotation x = new BoardNotation();
        for (int square = 0; square < 64; square++) {
            Due.is("new at(" + square + ")", x.at(square), -1);
        }
        int[] due = {0, 0, 0, 0, 1, 0, 0};
        for (int what = 0; what < due.length; what++) {
            Due.is("new state(" + what + ")", x.state(what), due[what]);
        }
        for (int what = 0; what <= 2; what++) {
            Due.is("new found(" + what + ")", x.found(what), -1);
        }
        Due.isThrown("new byteAt(0)", Due.INDEX, () -> x.byteAt(0));
        Due.is("new writeGame()", x.writeGame(), 0);
        Due.is("new branching()", x.branching(), 0);
        BoardNotation y = new BoardNotation();
        y.addKind('K');
        y.put(5, 0, 1);
        Due.is("at() of the other object", x.at(5), -1);
        Due.is("state(5) of the other object", x.state(5), 0);
    }

    private static void addKind() {
        BoardNotation x = new BoardNotation();
        int[] wrong = {64, 91, 97, 0, -1, Integer.MIN_VALUE, Integer.MAX_VALUE};
        for (int letter : wrong) {
            Due.isThrown("addKind(" + letter + ")", Due.ARGUMENT, () -> x.addKind(letter));
        }
        String letters = "AZKRNB";
        for (int k = 0; k < 6; k++) {
            int letter = letters.charAt(k);
            Due.is("addKind(" + letter + ")", x.addKind(letter), k);
            Due.is("state(5)", x.state(5), k + 1);
            Due.isThrown("addKind(" + letter + ") again", Due.ARGUMENT, () -> x.addKind(letter));
        }
        Due.isThrown("a seventh addKind", Due.STATE, () -> x.addKind('C'));
        Due.isThrown("a seventh addKind with a letter that stands", Due.ARGUMENT, () -> x.addKind('N'));
        Due.isThrown("a seventh addKind with a wrong letter", Due.ARGUMENT, () -> x.addKind(64));
        Due.is("state(5)", x.state(5), 6);

        BoardNotation y = Due.chess();
        Due.put(y, "a1", 1, 0);
        Due.play(y, "a1", "a2");
        Due.isThrown("addKind with other nodes", Due.STATE, () -> y.addKind('C'));
        Due.isThrown("addKind(75) with other nodes", Due.ARGUMENT, () -> y.addKind('K'));
        y.goTo(0);
        Due.isThrown("addKind at node 0 with other nodes", Due.STATE, () -> y.addKind('C'));
        y.clear();
        Due.is("addKind behind clear()", y.addKind('C'), 4);
    }

    private static void addStep() {
        BoardNotation x = new BoardNotation();
        Due.isThrown("addStep without kinds", Due.INDEX, () -> x.addStep(0, 1, 1, 1));
        x.addKind('K');
        x.addKind('R');
        Due.isThrown("addStep(2, ..)", Due.INDEX, () -> x.addStep(2, 1, 1, 1));
        Due.isThrown("addStep(-1, ..)", Due.INDEX, () -> x.addStep(-1, 1, 1, 1));
        int[][] wrong = {{4, 0, 1}, {-4, 0, 1}, {0, 4, 1}, {0, -4, 1}, {0, 0, 1}, {1, 0, 0}, {1, 0, 8}, {1, 0, -1},
            {Integer.MIN_VALUE, 0, 1}, {0, Integer.MAX_VALUE, 1}, {1, 1, Integer.MIN_VALUE}};
        for (int[] w : wrong) {
            Due.isThrown("addStep(1, " + w[0] + ", " + w[1] + ", " + w[2] + ")", Due.ARGUMENT,
                    () -> x.addStep(1, w[0], w[1], w[2]));
        }
        int[][] right = {{3, 3, 1}, {-3, -3, 7}, {0, 3, 2}, {-3, 0, 3}, {1, 0, 4}, {0, -1, 5}, {2, 1, 6}, {2, 1, 6}};
        for (int k = 0; k < right.length; k++) {
            Due.is("addStep number " + k, x.addStep(1, right[k][0], right[k][1], right[k][2]), k + 1);
        }
        Due.isThrown("a ninth addStep", Due.STATE, () -> x.addStep(1, 1, 1, 1));
        Due.is("addStep of the other kind", x.addStep(0, 1, 1, 1), 1);

        Due.put(x, "d1", 1, 0);
        String reached = "g4 d4 d7 a1 e1 f1 g1 h1 f2 h3";
        StringBuilder got = new StringBuilder();
        String[] names = {"e1", "f1", "g1", "h1", "a1", "f2", "h3", "d4", "g4", "d7"};
        for (String name : names) {
            got.append(Due.reason(x, "d1", name));
        }
        Due.isText("reasons to " + reached, got.toString(), "0000000000");
        Due.is("moves told apart by their squares", x.state(2), 10);
    }

    private static void addStepOrder() {
        BoardNotation x = Due.chess();
        Due.put(x, "a1", 1, 0);
        Due.play(x, "a1", "a2");
        Due.isThrown("addStep with other nodes", Due.STATE, () -> x.addStep(1, 1, 1, 1));
        Due.isThrown("addStep with other nodes, wrong step", Due.ARGUMENT, () -> x.addStep(1, 0, 0, 1));
        Due.isThrown("addStep of no kind, wrong step", Due.INDEX, () -> x.addStep(4, 0, 0, 1));
        x.goTo(0);
        Due.isThrown("addStep at node 0 with other nodes", Due.STATE, () -> x.addStep(1, 1, 1, 1));
        Due.isThrown("a ninth addStep, wrong reach", Due.ARGUMENT, () -> x.addStep(2, 1, 1, 8));
        x.clear();
        Due.is("addStep behind clear()", x.addStep(1, 1, 1, 1), 5);
        Due.is("the new step counts", Due.reason(x, "a1", "b2"), 0);
    }

    private static void put() {
        BoardNotation x = Due.chess();
        Due.is("put(a1, 0, 0)", x.put(0, 0, 0), -1);
        Due.is("put(a1, 3, 1)", x.put(0, 3, 1), 0);
        Due.is("put(a1, 1, 0)", x.put(0, 1, 0), 7);
        Due.is("put(a1, 1, 1)", x.put(0, 1, 1), 2);
        Due.is("at(0)", x.at(0), 3);
        Due.is("put(a1, -1, 1)", x.put(0, -1, 1), 3);
        Due.is("at(0)", x.at(0), -1);
        Due.is("put(a1, -1, 0)", x.put(0, -1, 0), -1);
        Due.is("put(h8, 3, 0)", x.put(63, 3, 0), -1);
        Due.is("at(63)", x.at(63), 6);
        for (int square : new int[] {-1, 64, Integer.MIN_VALUE, Integer.MAX_VALUE}) {
            Due.isThrown("put(" + square + ", 0, 0)", Due.INDEX, () -> x.put(square, 0, 0));
            Due.isThrown("put(" + square + ", -1, 0)", Due.INDEX, () -> x.put(square, -1, 0));
        }
        for (int kind : new int[] {-2, 4, Integer.MIN_VALUE, Integer.MAX_VALUE}) {
            Due.isThrown("put(1, " + kind + ", 0)", Due.INDEX, () -> x.put(1, kind, 0));
        }
        for (int side : new int[] {-1, 2, Integer.MIN_VALUE, Integer.MAX_VALUE}) {
            Due.isThrown("put(1, 0, " + side + ")", Due.ARGUMENT, () -> x.put(1, 0, side));
            Due.isThrown("put(1, -1, " + side + ")", Due.ARGUMENT, () -> x.put(1, -1, side));
        }
        Due.is("at(1)", x.at(1), -1);
    }

    private static void putOrder() {
        BoardNotation x = Due.chess();
        Due.put(x, "a1", 1, 0);
        Due.play(x, "a1", "a2");
        Due.isThrown("put with other nodes", Due.STATE, () -> x.put(5, 0, 0));
        Due.isThrown("put with other nodes, no such side", Due.ARGUMENT, () -> x.put(5, 0, 2));
        Due.isThrown("put, no such kind and side", Due.INDEX, () -> x.put(5, 4, 2));
        Due.isThrown("put, no such square and side", Due.INDEX, () -> x.put(64, 0, 2));
        x.goTo(0);
        Due.isThrown("put at node 0 with other nodes", Due.STATE, () -> x.put(5, -1, 0));
        x.clear();
        Due.is("put behind clear()", x.put(5, 0, 0), -1);
        Due.is("the first position behind clear()", x.at(0), 2);
    }
}
