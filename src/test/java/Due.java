/** Counts and prints the calls whose answer is not the one that is due. */
final class Due {
    static final Class<? extends Exception> ARGUMENT = IllegalArgumentException.class;
    static final Class<? extends Exception> STATE = IllegalStateException.class;
    static final Class<? extends Exception> INDEX = IndexOutOfBoundsException.class;

    private static int wrong = 0;
    private static String sentence = "";

    interface Call {
        double answer();
    }

    private Due() {
    }

    static void is(String call, double got, double want) {
        if (got != want) {
            tell(call + " answered " + got + ", due is " + want);
        }
    }

    static void isLong(String call, long got, long want) {
        if (got != want) {
            tell(call + " answered " + got + ", due is " + want);
        }
    }

    static void isText(String call, String got, String want) {
        if (!got.equals(want)) {
            tell(call + " answered \"" + got + "\", due is \"" + want + "\"");
        }
    }

    static void isThrown(String call, Class<? extends Exception> want, Call body) {
        String got;
        try {
            got = "the answer " + body.answer();
        } catch (RuntimeException e) {
            got = e.getClass().getName();
        }
        if (!got.equals(want.getName())) {
            tell(call + " gave " + got + ", due is " + want.getName());
        }
    }

    /** As isThrown(), and what digest() and found() tell is the same behind the call as ahead of it. */
    static void isRefused(String call, Class<? extends Exception> want, BoardNotation x, Call body) {
        long digest = x.digest();
        int[] found = {x.found(0), x.found(1), x.found(2)};
        isThrown(call, want, body);
        isLong("digest() behind the refused " + call, x.digest(), digest);
        for (int what = 0; what < found.length; what++) {
            is("found(" + what + ") behind the refused " + call, x.found(what), found[what]);
        }
    }

    /** The words of the document to which the answers from here on belong. */
    static void sentence(String words) {
        sentence = words;
    }

    static void tell(String line) {
        wrong++;
        System.out.println(sentence.isEmpty() ? line : "\"" + sentence + "\": " + line);
    }

    static boolean isAnyWrong() {
        return wrong > 0;
    }

    /** To be called last: ends with exit code 1 if an answer was wrong. */
    static void end() {
        if (wrong > 0) {
            System.out.println(wrong + " answers are wrong");
            System.exit(1);
        }
    }

    // ---- what the tests of a board share

    /** a1 is 0, h8 is 63. */
    static int square(String name) {
        return name.charAt(0) - 'a' + 8 * (name.charAt(1) - '1');
    }

    /** Four bytes a call, since an object is used for 512 calls at most. */
    static void feed(BoardNotation x, String text) {
        for (int k = 0; k < text.length(); k += 4) {
            int[] b = {-1, -1, -1, -1};
            for (int i = 0; i < 4 && k + i < text.length(); i++) {
                b[i] = text.charAt(k + i);
            }
            x.feed(b[0], b[1], b[2], b[3]);
        }
    }

    static int read(BoardNotation x, String text) {
        x.empty();
        feed(x, text);
        return x.read();
    }

    static int readGame(BoardNotation x, String text) {
        x.empty();
        feed(x, text);
        return x.readGame();
    }

    static String tape(BoardNotation x) {
        StringBuilder text = new StringBuilder();
        for (int k = 0; k < x.state(6); k++) {
            text.append((char) x.byteAt(k));
        }
        return text.toString();
    }

    static String write(BoardNotation x, String from, String to) {
        int size = x.write(square(from), square(to));
        is("what write() answers and state(6)", size, x.state(6));
        return tape(x);
    }

    static String writeGame(BoardNotation x) {
        int size = x.writeGame();
        is("what writeGame() answers and state(6)", size, x.state(6));
        return tape(x);
    }

    static int reason(BoardNotation x, String from, String to) {
        return x.reason(square(from), square(to));
    }

    static int play(BoardNotation x, String from, String to) {
        return x.play(square(from), square(to));
    }

    static int put(BoardNotation x, String square, int kind, int side) {
        return x.put(square(square), kind, side);
    }

    /** Kind 0 K (a king), 1 R (a rook), 2 N (a knight), 3 P (one step ahead, which its side turns round). */
    static BoardNotation chess() {
        BoardNotation x = new BoardNotation();
        x.addKind('K');
        x.addKind('R');
        x.addKind('N');
        x.addKind('P');
        for (int d = -1; d <= 1; d += 2) {
            x.addStep(0, d, 0, 1);
            x.addStep(0, 0, d, 1);
            x.addStep(0, d, 1, 1);
            x.addStep(0, d, -1, 1);
            x.addStep(1, d, 0, 7);
            x.addStep(1, 0, d, 7);
            x.addStep(2, d, 2, 1);
            x.addStep(2, d, -2, 1);
            x.addStep(2, 2 * d, 1, 1);
            x.addStep(2, 2 * d, -1, 1);
        }
        x.addStep(3, 0, 1, 1);
        return x;
    }
}
