import java.util.List;
import java.util.Random;

/** Runs of calls drawn from a fixed seed, each answer against that of Model. */
public final class ModelTest {
    private static final int RUNS = 400;
    private static final int CALLS = 500;
    private static final String METHODS = "addKind addStep put at state reason play feed empty read found write byteAt"
            + " node continuation goTo promote writeGame readGame clear branching digest";

    private final Random random;
    private final boolean patient;
    private final BoardNotation x = new BoardNotation();
    private final Model model = new Model();
    private final StringBuilder history = new StringBuilder();
    private int calls = 0;

    private ModelTest(long seed) {
        random = new Random(seed);
        patient = seed % 5 == 1;
    }

    public static void main(String[] args) {
        int runs = args.length > 0 ? Integer.parseInt(args[0]) : RUNS;
        for (int seed = 0; seed < runs && !Due.isAnyWrong(); seed++) {
            new ModelTest(seed).run(seed);
        }
        Due.end();
    }

    private void run(int seed) {
        if (seed % 8 != 0) {
            setUp(seed);
        }
        while (calls < CALLS && !Due.isAnyWrong()) {
            step();
        }
        compare("digest");
        if (Due.isAnyWrong()) {
            Due.tell("run " + seed + ":" + history);
        }
    }

    private void setUp(int seed) {
        int kinds = 1 + random.nextInt(4);
        for (int kind = 0; kind < kinds; kind++) {
            compare("addKind", 'A' + (seed + 5 * kind) % 26);
            int width = random.nextInt(4) == 0 ? 3 : 1 + random.nextInt(2);
            for (int steps = 3 + random.nextInt(6); steps > 0; steps--) {
                compare("addStep", kind, random.nextInt(2 * width + 1) - width, random.nextInt(2 * width + 1) - width,
                        1 + random.nextInt(kind == 0 ? 2 : 7));
            }
        }
        for (int side = 0; side <= 1; side++) {
            for (int royals = random.nextInt(seed % 4 == 0 ? 4 : 2); royals >= 0; royals--) {
                compare("put", random.nextInt(64), 0, side);
            }
            for (int pieces = 1 + random.nextInt(seed % 3 == 0 ? 24 : 7); pieces > 0 && kinds > 1; pieces--) {
                compare("put", random.nextInt(64), 1 + random.nextInt(kinds - 1), side);
            }
        }
    }

    private void step() {
        // Some runs let the tree grow for long before it is read anew or cut.
        boolean grows = patient && calls < 380;
        int choice = grows ? random.nextInt(66) : random.nextInt(100);
        if (choice < 34) {
            playSome();
        } else if (choice < 38) {
            writeSome();
        } else if (choice < 52) {
            if (grows) {
                playSome();
            } else {
                readSome();
            }
        } else if (choice < 58) {
            compare("goTo", someNode());
        } else if (choice < 62) {
            compare("promote", someNode());
        } else if (choice < 65) {
            compare("writeGame");
        } else if (choice < 70) {
            readSomeGame();
        } else if (choice < 72) {
            compare("digest");
        } else if (choice < 80) {
            compare("state", random.nextInt(7));
        } else if (choice < 81 && random.nextInt(3) == 0) {
            compare("clear");
        } else {
            anything();
        }
    }

    private int someNode() {
        return random.nextInt(model.nodes.size());
    }

    private int[] someMove() {
        if (model.legal(model.now(), model.turn()).isEmpty()) {
            compare("goTo", random.nextInt(3) == 0 ? 0 : someNode());
        }
        List<int[]> legal = model.legal(model.now(), model.turn());
        if (legal.isEmpty() || random.nextInt(12) == 0) {
            return new int[] {random.nextInt(64), random.nextInt(64)};
        }
        return legal.get(random.nextInt(legal.size()));
    }

    /** A move of which it is not asked whether it is legal. */
    private int[] reachedMove() {
        int[] board = model.now();
        for (int from = random.nextInt(64); from < 64; from++) {
            if (board[from] >= 0 && (board[from] & 1) == model.turn()) {
                for (int to : model.reached(board, from)) {
                    if (random.nextInt(3) == 0) {
                        return new int[] {from, to};
                    }
                }
            }
        }
        return someMove();
    }

    private void playSome() {
        int[] move = someMove();
        compare("play", move[0], move[1]);
    }

    private void writeSome() {
        int[] move = random.nextInt(3) == 0 ? reachedMove() : someMove();
        compare("reason", move[0], move[1]);
        compare("write", move[0], move[1]);
    }

    private void readSome() {
        int[] move = random.nextInt(2) == 0 ? reachedMove() : someMove();
        if (model.now()[move[0]] == -1) {
            return;
        }
        StringBuilder text = new StringBuilder(model.form(move[0], move[1]));
        int way = random.nextInt(6);
        if (way == 0) {
            text.append(random.nextBoolean() ? '+' : '#');
        } else if (way == 1) {
            text.insert(1, 'x');
        } else if (way == 2) {
            text.insert(1, (char) ('a' + move[0] % 8));
        } else if (way == 3 && text.length() > 3) {
            text.deleteCharAt(1);
        } else if (way == 4) {
            spoil(text, 1 + random.nextInt(2), "abcdefgh12345678x+#" + text.charAt(0));
        }
        feed(text);
        compare("read");
        founds();
    }

    private void readSomeGame() {
        StringBuilder text = new StringBuilder(model.game());
        if (random.nextInt(3) == 0) {
            text.setLength(random.nextInt(text.length() + 1));
        }
        if (text.length() > 200) {
            text.setLength(200);
        }
        spoil(text, random.nextInt(3), "  (()) (ah18x+#");
        feed(text);
        compare("readGame");
        founds();
    }

    private void founds() {
        for (int what = 0; what <= 2; what++) {
            compare("found", what);
        }
    }

    private void spoil(StringBuilder text, int times, String bytes) {
        for (; times > 0; times--) {
            char b = bytes.charAt(random.nextInt(bytes.length()));
            int place = random.nextInt(text.length() + 1);
            int way = random.nextInt(3);
            if (way == 0 || place == text.length()) {
                text.insert(place, b);
            } else if (way == 1) {
                text.setCharAt(place, b);
            } else {
                text.deleteCharAt(place);
            }
        }
    }

    private void feed(StringBuilder text) {
        compare("empty");
        for (int k = 0; k < text.length(); k += 4) {
            int[] b = {-1, -1, -1, -1};
            for (int i = 0; i < 4 && k + i < text.length(); i++) {
                b[i] = text.charAt(k + i);
            }
            compare("feed", b);
        }
    }

    private void anything() {
        String[] names = METHODS.split(" ");
        String name = names[random.nextInt(names.length)];
        if (name.equals("clear") && random.nextInt(4) != 0) {
            return;
        }
        int[] parameters = new int[4];
        int[] bounds = {3, 7, 66, 100, 260};
        for (int k = 0; k < 4; k++) {
            parameters[k] = random.nextInt(bounds[random.nextInt(bounds.length)])
                    - (random.nextInt(3) == 0 ? random.nextInt(5) : 0);
        }
        if (random.nextInt(40) == 0) {
            parameters[random.nextInt(4)] = random.nextBoolean() ? Integer.MIN_VALUE : Integer.MAX_VALUE;
        }
        compare(name, parameters);
    }

    private void compare(String name, int... p) {
        if (calls >= 512 || Due.isAnyWrong()) {
            return;
        }
        calls++;
        int[] q = java.util.Arrays.copyOf(p, 4);
        history.append("\n  ").append(name).append(java.util.Arrays.toString(q));
        String want = answer(() -> ofModel(name, q[0], q[1], q[2], q[3]));
        String got = answer(() -> ofProgram(name, q[0], q[1], q[2], q[3]));
        history.append(" ").append(want);
        Due.isText(name + java.util.Arrays.toString(q), got, want);
    }

    private interface Answer {
        Number get();
    }

    private static String answer(Answer answer) {
        try {
            return answer.get().toString();
        } catch (RuntimeException e) {
            return "throws " + e.getClass().getName();
        }
    }

    private Number ofModel(String name, int a, int b, int c, int d) {
        switch (name) {
            case "addKind": return model.addKind(a);
            case "addStep": return model.addStep(a, b, c, d);
            case "put": return model.put(a, b, c);
            case "at": return model.at(a);
            case "state": return model.state(a);
            case "reason": return model.reason(a, b);
            case "play": return model.play(a, b);
            case "feed": return model.feed(a, b, c, d);
            case "empty": return model.empty();
            case "read": return model.read();
            case "found": return model.found(a);
            case "write": return model.write(a, b);
            case "byteAt": return model.byteAt(a);
            case "node": return model.node(a, b);
            case "continuation": return model.continuation(a, b);
            case "goTo": return model.goTo(a);
            case "promote": return model.promote(a);
            case "writeGame": return model.writeGame();
            case "readGame": return model.readGame();
            case "clear": return model.clear();
            case "branching": return model.branching();
            default: return model.digest();
        }
    }

    private Number ofProgram(String name, int a, int b, int c, int d) {
        switch (name) {
            case "addKind": return x.addKind(a);
            case "addStep": return x.addStep(a, b, c, d);
            case "put": return x.put(a, b, c);
            case "at": return x.at(a);
            case "state": return x.state(a);
            case "reason": return x.reason(a, b);
            case "play": return x.play(a, b);
            case "feed": return x.feed(a, b, c, d);
            case "empty": return x.empty();
            case "read": return x.read();
            case "found": return x.found(a);
            case "write": return x.write(a, b);
            case "byteAt": return x.byteAt(a);
            case "node": return x.node(a, b);
            case "continuation": return x.continuation(a, b);
            case "goTo": return x.goTo(a);
            case "promote": return x.promote(a);
            case "writeGame": return x.writeGame();
            case "readGame": return x.readGame();
            case "clear": return x.clear();
            case "branching": return x.branching();
            default: return x.digest();
        }
    }
}
