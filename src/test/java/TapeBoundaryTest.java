/** The boundary cases of promises 9, 10 and 14 (feed, empty, byteAt), sentence by sentence. */
public final class TapeBoundaryTest {
    private static final int[] FAR = {Integer.MIN_VALUE, -256, 512, Integer.MAX_VALUE};

    public static void main(String[] args) {
        feedAnswers();
        feedNothing();
        feedNoByte();
        feedOnlyNothing();
        feedTwoThousand();
        emptyAnswers();
        byteAtAnswers();
        byteAtNoPlace();
        Due.end();
    }

    /** A new object with so many bytes on its tape. */
    private static BoardNotation filled(int bytes) {
        BoardNotation x = new BoardNotation();
        Due.feed(x, "?".repeat(bytes));
        return x;
    }

    private static void feedAnswers() {
        Due.sentence("Returns the number of bytes of the tape.");
        BoardNotation x = new BoardNotation();
        Due.is("feed() of 1", x.feed(1, -1, -1, -1), 1);
        Due.is("feed() of 2", x.feed(1, 2, -1, -1), 3);
        Due.is("feed() of 3", x.feed(1, 2, 3, -1), 6);
        Due.is("feed() of 4", x.feed(1, 2, 3, 4), 10);
    }

    private static void feedNothing() {
        Due.sentence("a byte; -1: nothing");
        for (int which = 0; which < 8; which++) {
            int b = (which & 1) == 0 ? -1 : 11;
            int c = (which & 2) == 0 ? -1 : 12;
            int d = (which & 4) == 0 ? -1 : 13;
            String due = "" + (char) 10 + (b < 0 ? "" : (char) b) + (c < 0 ? "" : (char) c) + (d < 0 ? "" : (char) d);
            BoardNotation x = new BoardNotation();
            Due.is("feed(10, " + b + ", " + c + ", " + d + ")", x.feed(10, b, c, d), due.length());
            Due.isText("its bytes", Due.tape(x), due);
        }
    }

    private static void feedNoByte() {
        Due.sentence("Throws `IllegalArgumentException` if a is not 0 to 255, or another one is not -1 to 255");
        BoardNotation x = new BoardNotation();
        Due.isRefused("feed(-1, 0, 0, 0)", Due.ARGUMENT, x, () -> x.feed(-1, 0, 0, 0));
        Due.isRefused("feed(256, 0, 0, 0)", Due.ARGUMENT, x, () -> x.feed(256, 0, 0, 0));
        for (int wrong : new int[] {-2, 256}) {
            Due.isRefused("feed(0, " + wrong + ", 0, 0)", Due.ARGUMENT, x, () -> x.feed(0, wrong, 0, 0));
            Due.isRefused("feed(0, 0, " + wrong + ", 0)", Due.ARGUMENT, x, () -> x.feed(0, 0, wrong, 0));
            Due.isRefused("feed(0, 0, 0, " + wrong + ")", Due.ARGUMENT, x, () -> x.feed(0, 0, 0, wrong));
        }
        for (int wrong : FAR) {
            Due.isRefused("feed(" + wrong + ", 0, 0, 0)", Due.ARGUMENT, x, () -> x.feed(wrong, 0, 0, 0));
            Due.isRefused("feed(0, " + wrong + ", 0, 0)", Due.ARGUMENT, x, () -> x.feed(0, wrong, 0, 0));
            Due.isRefused("feed(0, 0, " + wrong + ", 0)", Due.ARGUMENT, x, () -> x.feed(0, 0, wrong, 0));
            Due.isRefused("feed(0, 0, 0, " + wrong + ")", Due.ARGUMENT, x, () -> x.feed(0, 0, 0, wrong));
        }
        Due.is("feed(0, -1, -1, -1)", x.feed(0, -1, -1, -1), 1);
        Due.is("feed(255, 0, 0, 0)", x.feed(255, 0, 0, 0), 5);
        Due.is("feed(1, 255, 255, 255)", x.feed(1, 255, 255, 255), 9);
        Due.is("feed(254, 254, 1, 254)", x.feed(254, 254, 1, 254), 13);
    }

    private static void feedOnlyNothing() {
        Due.sentence("Throws `IllegalArgumentException` if a is not 0 to 255");
        BoardNotation x = filled(3);
        Due.isRefused("feed(-1, -1, -1, -1)", Due.ARGUMENT, x, () -> x.feed(-1, -1, -1, -1));
        Due.isRefused("feed(-1, 65, -1, -1)", Due.ARGUMENT, x, () -> x.feed(-1, 65, -1, -1));
    }

    private static void feedTwoThousand() {
        Due.sentence("Throws `IllegalStateException` if there would be more than 2000");
        int[][] feeds = {{1, -1, -1, -1}, {1, 2, -1, -1}, {1, -1, 3, -1}, {1, -1, -1, 4}, {1, 2, 3, -1}, {1, 2, 3, 4}};
        for (int[] f : feeds) {
            int more = 0;
            for (int b : f) {
                more += b == -1 ? 0 : 1;
            }
            for (int room = 0; room <= 5; room++) {
                BoardNotation x = filled(2000 - room);
                String call = "feed() of " + more + " into " + (2000 - room);
                if (more <= room) {
                    Due.is(call, x.feed(f[0], f[1], f[2], f[3]), 2000 - room + more);
                } else {
                    Due.isThrown(call, Due.STATE, () -> x.feed(f[0], f[1], f[2], f[3]));
                    Due.is("the bytes behind it", x.state(6), 2000 - room);
                }
            }
        }
        BoardNotation y = filled(1999);
        Due.isThrown("feed(1, 2, -1, -1)", Due.STATE, () -> y.feed(1, 2, -1, -1));
        Due.is("feed() of the last one", y.feed(7, -1, -1, -1), 2000);
        Due.is("the last byte", y.byteAt(1999), 7);
        Due.is("empty()", y.empty(), 2000);
        Due.is("feed() behind empty()", y.feed(7, -1, -1, -1), 1);
    }

    private static void emptyAnswers() {
        Due.sentence("Returns how many bytes it had.");
        BoardNotation x = new BoardNotation();
        Due.is("empty() of an empty tape", x.empty(), 0);
        x.feed(0, -1, -1, -1);
        Due.is("empty() of one byte", x.empty(), 1);
        Due.is("empty() again", x.empty(), 0);
        Due.is("the bytes", x.state(6), 0);
        Due.is("empty() of a full tape", filled(2000).empty(), 2000);
    }

    private static void byteAtAnswers() {
        Due.sentence("Returns the byte there.");
        BoardNotation x = new BoardNotation();
        for (int b = 0; b <= 255; b++) {
            x.feed(b, b, -1, -1);
            if (b < 3 || b > 125 && b < 130 || b > 253) {
                Due.is("byteAt(" + 2 * b + ")", x.byteAt(2 * b), b);
                Due.is("byteAt(" + (2 * b + 1) + ")", x.byteAt(2 * b + 1), b);
            }
        }
        Due.is("byteAt(0)", x.byteAt(0), 0);
        Due.is("byteAt(511)", x.byteAt(511), 255);
    }

    private static void byteAtNoPlace() {
        Due.sentence("Throws `IndexOutOfBoundsException` if there is no such place");
        BoardNotation x = new BoardNotation();
        Due.isRefused("byteAt(0) of an empty tape", Due.INDEX, x, () -> x.byteAt(0));
        Due.isRefused("byteAt(-1) of an empty tape", Due.INDEX, x, () -> x.byteAt(-1));
        x.feed(1, 2, 3, -1);
        Due.isRefused("byteAt(-1)", Due.INDEX, x, () -> x.byteAt(-1));
        Due.is("byteAt(0)", x.byteAt(0), 1);
        Due.is("byteAt(2)", x.byteAt(2), 3);
        Due.isRefused("byteAt(3)", Due.INDEX, x, () -> x.byteAt(3));
        for (int place : FAR) {
            Due.isRefused("byteAt(" + place + ")", Due.INDEX, x, () -> x.byteAt(place));
        }
        x.empty();
        Due.isRefused("byteAt(0) behind empty()", Due.INDEX, x, () -> x.byteAt(0));
        BoardNotation y = filled(2000);
        Due.is("byteAt(1999) of a full tape", y.byteAt(1999), '?');
        Due.isThrown("byteAt(2000) of a full tape", Due.INDEX, () -> y.byteAt(2000));
    }
}
