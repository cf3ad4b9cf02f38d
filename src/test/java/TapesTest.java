/** Promises 35 to 38: tapes, their items, and how these come from one to another. */
public final class TapesTest {
    private static final Check CHECK = new Check("TapesTest");
    private static final long NO = Long.MIN_VALUE;

    public static void main(String[] args) {
        tape();
        item();
        read();
        shift();
        shiftRefused();
        CHECK.end();
    }

    private static void due(String call, long got, long want) {
        CHECK.due(call, got, want);
    }

    private static void tape() {
        LidsAndCombs x = new LidsAndCombs();
        due("tape(6, 9, 99)", x.tape(6, 9, 99), -1);
        due("tape(-1, -1, 0)", x.tape(-1, -1, 0), -1);
        due("tape(0, 5, -1)", x.tape(0, 5, -1), -2);
        due("tape(0, -2, 0)", x.tape(0, -2, 0), -2);
        due("tape(0, 0, 61)", x.tape(0, 0, 61), -2);
        due("tape(0, 4, -1)", x.tape(0, 4, -1), -14);
        due("refused: nothing there", x.item(0, 0, 1), -11);
        for (int sort = 0; sort < 5; sort++) {
            due("tape(" + sort + ", " + sort + ", 60)", x.tape(sort, sort, 60), 1);
            due("its last", x.item(sort, 59, 1), 1);
            due("made anew", x.tape(sort, sort, 60), 1);
            due("all 0", x.read(sort, 59), 0);
        }
        due("an empty row", x.tape(5, 3, 0), 1);
        due("has no place 0", x.item(5, 0, 1), -13);
        due("holds nothing", x.tape(5, -1, -99), 1);
        due("nothing there", x.item(5, 0, 1), -11);
        due("nothing to read", x.read(5, 0), NO);
        x.item(3, 5, 7);
        due("a refusal", x.tape(3, 3, -1), -14);
        due("changes nothing", x.read(3, 5), 7);
    }

    private static void item() {
        LidsAndCombs x = new LidsAndCombs();
        for (int sort = 0; sort < 5; sort++) {
            x.tape(sort, sort, 2);
        }
        long[] put = {0x123456789ABCDEF0L, 128, 32768, 0x80000000L, -1, 0, 1L << 40, Long.MIN_VALUE};
        long[][] want = {
            {(byte) 0xF0, (short) 0xDEF0, 0x9ABCDEF0, 0x123456789ABCDEF0L, 1},
            {-128, 128, 128, 128, 1},
            {0, -32768, 32768, 32768, 1},
            {0, 0, Integer.MIN_VALUE, 0x80000000L, 1},
            {-1, -1, -1, -1, 1},
            {0, 0, 0, 0, 0},
            {0, 0, 0, 1L << 40, 1},
            {0, 0, 0, Long.MIN_VALUE, 1},
        };
        for (int n = 0; n < put.length; n++) {
            for (int sort = 0; sort < 5; sort++) {
                due("item(" + sort + ", 1, " + put[n] + ")", x.item(sort, 1, put[n]), 1);
                due("read(" + sort + ", 1) of " + put[n], x.read(sort, 1), want[n][sort]);
            }
        }
        due("the place beside", x.read(3, 0), 0);
        due("item(6, 0, 1)", x.item(6, 0, 1), -1);
        due("item(-1, 0, 1)", x.item(-1, 0, 1), -1);
        due("item(5, -1, 1)", x.item(5, -1, 1), -11);
        due("item(0, 2, 1)", x.item(0, 2, 1), -13);
        due("item(0, -1, 1)", x.item(0, -1, 1), -13);
        due("item(0, far, 1)", x.item(0, Integer.MAX_VALUE, 1), -13);
    }

    private static void read() {
        LidsAndCombs x = new LidsAndCombs();
        x.tape(0, 2, 3);
        x.item(0, 2, 9);
        due("read(0, 2)", x.read(0, 2), 9);
        int[][] none = {{0, 3}, {0, -1}, {1, 0}, {6, 0}, {-1, 0}, {0, Integer.MIN_VALUE}};
        for (int[] n : none) {
            due("read(" + n[0] + ", " + n[1] + ")", x.read(n[0], n[1]), NO);
        }
        x.tape(0, 2, 2);
        due("of a shorter row", x.read(0, 2), NO);
    }

    private static void items(LidsAndCombs x, int tape, long... want) {
        for (int i = 0; i < want.length; i++) {
            due("read(" + tape + ", " + i + ")", x.read(tape, i), want[i]);
        }
    }

    private static void shift() {
        LidsAndCombs x = new LidsAndCombs();
        x.tape(0, 1, 5);
        x.tape(1, 1, 3);
        for (int i = 0; i < 5; i++) {
            x.item(0, i, i + 1);
        }
        due("shift(0, 1, 1, 0, 3)", x.shift(0, 1, 1, 0, 3), 3);
        items(x, 1, 2, 3, 4);
        items(x, 0, 1, 2, 3, 4, 5);
        due("forth in the same", x.shift(0, 0, 0, 1, 4), 4);
        items(x, 0, 1, 1, 2, 3, 4);
        due("back in the same", x.shift(0, 2, 0, 0, 3), 3);
        items(x, 0, 2, 3, 4, 3, 4);
        due("none", x.shift(0, 5, 1, 3, 0), 0);
        items(x, 1, 2, 3, 4);
        due("one", x.shift(1, 2, 0, 4, 1), 1);
        due("all", x.shift(1, 0, 0, 0, 3), 3);
        items(x, 0, 2, 3, 4, 3, 4);
    }

    private static void shiftRefused() {
        LidsAndCombs x = new LidsAndCombs();
        x.tape(0, 1, 5);
        x.tape(1, 1, 3);
        x.tape(2, 2, 5);
        int[][] calls = {
            {6, 0, 0, 0, 1, -1}, {0, 0, 6, 0, 1, -1}, {-1, 0, 0, 0, 1, -1}, {3, 0, -1, 0, 1, -1},
            {3, 0, 0, 0, 1, -11}, {0, -1, 3, 0, -1, -11}, {3, 0, 3, 0, 0, -11},
            {0, 0, 2, 0, 1, -12}, {2, -1, 0, 0, -1, -12},
            {0, 0, 1, 0, -1, -13}, {0, -1, 1, 0, 1, -13}, {0, 0, 1, -1, 1, -13},
            {0, 3, 1, 0, 3, -13}, {0, 0, 1, 1, 3, -13}, {0, 6, 1, 0, 0, -13}, {0, 0, 1, 4, 0, -13},
            {0, Integer.MAX_VALUE, 1, 0, 1, -13}, {0, 1, 1, 0, Integer.MAX_VALUE, -13},
            {0, 0, 1, Integer.MAX_VALUE, 2, -13}, {0, Integer.MIN_VALUE, 1, 0, 1, -13},
            {0, 0, 1, 0, 3, 3},
        };
        for (int[] c : calls) {
            due("shift(" + c[0] + ", " + c[1] + ", " + c[2] + ", " + c[3] + ", " + c[4] + ")",
                x.shift(c[0], c[1], c[2], c[3], c[4]), c[5]);
        }
    }
}
