/** Promises 31 to 34: acts, their trace, for whom one is taken, how many there are. */
public final class ActsTest {
    private static final Check CHECK = new Check("ActsTest");

    public static void main(String[] args) {
        acts();
        wrapping();
        none();
        taken();
        count();
        CHECK.end();
    }

    private static void due(String call, long got, long want) {
        CHECK.due(call, got, want);
    }

    /** One of each of the first six kinds. */
    private static LidsAndCombs kinds() {
        LidsAndCombs x = new LidsAndCombs();
        int[] v = {3, 2, 4, 5, 1, 6};
        for (int kind = 0; kind < 6; kind++) {
            x.player(kind, v[kind], 0, 0, 1);
        }
        return x;
    }

    private static void act(LidsAndCombs x, int player, int act, int want, int... bodies) {
        String call = "act(" + player + ", " + act + ", 4) of kind " + x.of(player, 0);
        due(call, x.act(player, act, 4), want);
        due(call + ": bodies", x.count(6), bodies.length);
        for (int i = 0; i < bodies.length; i++) {
            due(call + ": trace(" + i + ")", x.trace(i), bodies[i]);
        }
        due(call + ": behind the trace", x.trace(bodies.length), -1);
        due(call + ": ahead of the trace", x.trace(-1), -1);
    }

    private static void acts() {
        LidsAndCombs x = kinds();
        act(x, 0, 0, 4, 10);
        act(x, 0, 1, 1, 11, 10);
        act(x, 0, 2, 2, 12, 11, 10);
        act(x, 1, 0, 5, 10);
        act(x, 1, 1, 3 ^ 6, 20, 11, 10);
        act(x, 1, 2, 10, 12, 20, 11, 10);
        act(x, 2, 0, 14, 30, 10);
        act(x, 2, 1, 10, 11, 30, 10);
        act(x, 2, 2, 20, 12, 11, 30, 10);
        act(x, 3, 0, 7, 10);
        act(x, 3, 1, 2, 11, 10);
        act(x, 3, 2, 4 - 1, 40, 12, 11, 10, 11, 10);
        act(x, 4, 0, -8, 50, 10);
        act(x, 4, 1, -10 ^ 6, 51, 20, 11, 50, 10);
        act(x, 4, 2, -32, 12, 51, 20, 11, 50, 10);
        act(x, 5, 0, 17, 30, 10);
        act(x, 5, 1, 11, 11, 30, 10);
        act(x, 5, 2, -8, 60, 12, 11, 30, 10);
        x = new LidsAndCombs();
        for (int p = 0; p < 3; p++) {
            x.player(0, 0, 0, 0, 1);
        }
        x.player(6, 9, 0, 0, 1);
        act(x, 3, 0, 7 ^ 9, 71, 10);
        act(x, 3, 1, 14 - 9 + 5, 70, 11, 71, 10, 10);
        act(x, 3, 2, 20 + 4 + 5, 40, 12, 70, 11, 71, 10, 10, 70, 11, 71, 10, 10);
    }

    private static void wrapping() {
        LidsAndCombs x = kinds();
        due("three times and 2", x.act(2, 0, Integer.MAX_VALUE), Integer.MAX_VALUE);
        due("and 1", x.act(1, 0, Integer.MAX_VALUE), Integer.MIN_VALUE);
        due("less 3", x.act(0, 1, Integer.MIN_VALUE), Integer.MAX_VALUE - 2);
        due("twice", x.act(0, 2, Integer.MIN_VALUE + 3), 0);
        due("the other sign", x.act(4, 0, Integer.MIN_VALUE - 4), Integer.MIN_VALUE);
    }

    private static void none() {
        LidsAndCombs x = kinds();
        int[][] none = {{6, 0}, {-1, 0}, {0, 3}, {0, -1}, {Integer.MAX_VALUE, 1}, {0, Integer.MIN_VALUE}};
        for (int[] n : none) {
            x.act(3, 2, 4);
            due("six bodies", x.count(6), 6);
            due("act(" + n[0] + ", " + n[1] + ", 4)", x.act(n[0], n[1], 4), 0);
            due("no trace then", x.trace(0), -1);
            due("no bodies then", x.count(6), 0);
        }
        due("trace(20)", x.trace(20), -1);
        due("trace far off", x.trace(Integer.MAX_VALUE), -1);
        due("trace far below", x.trace(Integer.MIN_VALUE), -1);
    }

    private static void taken() {
        LidsAndCombs x = new LidsAndCombs();
        x.player(6, 0, 0, 0, 1);
        for (int kind = 0; kind < 5; kind++) {
            x.player(kind, 0, 0, 0, 1);
        }
        // by kind: for which kinds it may be taken
        int[][] may = {{0}, {0, 1}, {0, 2}, {0, 3}, {0, 1, 4}, {0, 2, 5}, {0, 3, 6}};
        for (int p = 0; p < 6; p++) {
            takenAs(x, p, p == 0 ? 6 : p - 1, may);
        }
        x = kinds();
        takenAs(x, 5, 5, may);
        due("taken(0, 7)", x.taken(0, 7), -2);
        due("taken(0, -1)", x.taken(0, -1), -2);
        due("taken(9, 9)", x.taken(9, 9), -2);
        due("taken(6, 0)", x.taken(6, 0), -11);
        due("taken(-1, 0)", x.taken(-1, 0), -11);
    }

    private static void takenAs(LidsAndCombs x, int player, int kind, int[][] may) {
        for (int k = 0; k < 7; k++) {
            int want = -12;
            for (int other : may[kind]) {
                want = other == k ? kind : want;
            }
            due("one of kind " + kind + " taken for one of " + k, x.taken(player, k), want);
        }
    }

    private static void count() {
        LidsAndCombs x = kinds();
        Check.kitchen(x, "step 1");
        Check.kitchen(x, "step 2");
        Check.feed(x, "pay");
        x.see(0, 1, 0);
        for (int n = 0; n < 4; n++) {
            x.afternoon(0, 0);
        }
        for (int n = 0; n < 5; n++) {
            x.book(0, 1);
        }
        x.act(5, 2, 4);
        int[] want = {6, 2, 1, 4, 5, 3, 5};
        for (int what = 0; what < want.length; what++) {
            due("count(" + what + ")", x.count(what), want[what]);
        }
        due("count(7)", x.count(7), -2);
        due("count(-1)", x.count(-1), -2);
    }
}
