/** Promises 35 to 38, sentence by sentence: tapes, their items, and how these come from one to another. */
final class EdgesOfTapes extends Edges {
    private static final int BYTES = 0, SHORTS = 1, INTS = 2, LONGS = 3, BOOLEANS = 4;

    static void tell() {
        tape();
        item();
        read();
        shift();
        shiftRefused();
    }

    private static void tape() {
        holds(35, "TAPES 0 .. 5 hold nothing (at first), or a row of 0 bytes, 1 shorts, 2 ints, 3 longs, 4 booleans (items 0, 1).", () -> {
            for (int tape = 0; tape < 6; tape++) {
                LidsAndCombs x = nobody();
                due("read(" + tape + ", 0)", x.read(tape, 0), NO);
                due("item(" + tape + ", 0, 1)", x.item(tape, 0, 1), -11);
                for (int sort = 0; sort < 5; sort++) {
                    due("tape(" + tape + ", " + sort + ", 1)", x.tape(tape, sort, 1), 1);
                    due("read(" + tape + ", 0)", x.read(tape, 0), 0);
                    x.item(tape, 0, 258);
                    due("258 in it", x.read(tape, 0), sort == BYTES ? 2 : sort == BOOLEANS ? 1 : 258);
                }
            }
        });
        holds(35, "A TAPE becomes a row of n (0 .. 60) of a sort, all 0, or holds nothing (sort -1: n does not matter): 1.", () -> {
            for (int sort = 0; sort < 5; sort++) {
                LidsAndCombs x = nobody();
                due("a row of none", x.tape(5, sort, 0), 1);
                due("it has no place 0", x.item(5, 0, 1), -13);
                due("a row of 60", x.tape(5, sort, 60), 1);
                for (int i = 0; i < 60; i++) {
                    due("item " + i + " of 60", x.read(5, i), 0);
                    x.item(5, i, 1);
                }
                due("no item 60", x.item(5, 60, 1), -13);
                due("made anew", x.tape(5, sort, 60), 1);
                for (int i = 0; i < 60; i++) {
                    due("item " + i + " of 60 anew", x.read(5, i), 0);
                }
                for (int n : new int[] {0, 60, 61, -1, FAR_BELOW, FAR_ABOVE}) {
                    x.tape(5, sort, 1);
                    due("nothing, n is " + n, x.tape(5, -1, n), 1);
                    due("it holds nothing", x.item(5, 0, 1), -11);
                }
            }
        });
        holds(35, "NONE: tape;", () -> {
            for (int tape : new int[] {-1, 6, FAR_BELOW, FAR_ABOVE}) {
                due("tape(" + tape + ", 0, 1)", nobody().tape(tape, 0, 1), -1);
                due("tape(" + tape + ", -1, 1)", nobody().tape(tape, -1, 1), -1);
            }
        });
        holds(35, "BAD: sort, n above 60;", () -> {
            LidsAndCombs x = full();
            same("a tape of what is not as told", x, () -> {
                for (int sort : new int[] {-2, 5, FAR_BELOW, FAR_ABOVE}) {
                    due("tape(0, " + sort + ", 1)", x.tape(0, sort, 1), -2);
                    due("tape(4, " + sort + ", 1)", x.tape(4, sort, 1), -2);
                }
                for (int sort = 0; sort < 5; sort++) {
                    due("tape(0, " + sort + ", 61)", x.tape(0, sort, 61), -2);
                    due("tape(4, " + sort + ", far above)", x.tape(4, sort, FAR_ABOVE), -2);
                }
            });
            due("still nothing on 4", x.item(4, 0, 1), -11);
        });
        holds(35, "SIZE.", () -> {
            LidsAndCombs x = full();
            same("a tape of a size below 0", x, () -> {
                for (int sort = 0; sort < 5; sort++) {
                    due("tape(0, " + sort + ", -1)", x.tape(0, sort, -1), -14);
                    due("tape(4, " + sort + ", far below)", x.tape(4, sort, FAR_BELOW), -14);
                }
            });
            due("still nothing on 4", x.item(4, 0, 1), -11);
        });
    }

    private static void put(int sort, long v, long want) {
        LidsAndCombs x = nobody();
        x.tape(0, sort, 3);
        due("item(0, 1, " + v + ") of sort " + sort, x.item(0, 1, v), 1);
        due("is then", x.read(0, 1), want);
        due("ahead of it", x.read(0, 0), 0);
        due("behind it", x.read(0, 2), 0);
    }

    private static void item() {
        holds(36, "Item i of a TAPE becomes v (its lowest bits, as many as an item has; booleans: whether v is not 0): 1.", () -> {
            long[] longs = {0, 1, -1, Long.MAX_VALUE, Long.MIN_VALUE};
            for (long v : longs) {
                put(LONGS, v, v);
                put(INTS, v, v == Long.MAX_VALUE ? -1 : v == Long.MIN_VALUE ? 0 : v);
                put(SHORTS, v, v == Long.MAX_VALUE ? -1 : v == Long.MIN_VALUE ? 0 : v);
                put(BYTES, v, v == Long.MAX_VALUE ? -1 : v == Long.MIN_VALUE ? 0 : v);
                put(BOOLEANS, v, v == 0 ? 0 : 1);
            }
            long[][] bytes = {{127, 127}, {128, -128}, {255, -1}, {256, 0}, {-128, -128}, {-129, 127}, {-256, 0}};
            for (long[] b : bytes) {
                put(BYTES, b[0], b[1]);
            }
            long[][] shorts = {{32767, 32767}, {32768, -32768}, {65535, -1}, {65536, 0}, {-32768, -32768}, {-32769, 32767}};
            for (long[] s : shorts) {
                put(SHORTS, s[0], s[1]);
            }
            long[][] ints = {{FAR_ABOVE, FAR_ABOVE}, {FAR_ABOVE + 1L, FAR_BELOW}, {(1L << 32) - 1, -1}, {1L << 32, 0},
                {FAR_BELOW, FAR_BELOW}, {FAR_BELOW - 1L, FAR_ABOVE}};
            for (long[] n : ints) {
                put(INTS, n[0], n[1]);
            }
            long[] whole = {2, -2, 256, 1L << 16, 1L << 32, 1L << 62};
            for (long v : whole) {
                put(BOOLEANS, v, 1);
            }
        });
        holds(36, "NONE;", () -> {
            for (int tape : new int[] {-1, 6, FAR_BELOW, FAR_ABOVE}) {
                due("item(" + tape + ", 0, 1)", full().item(tape, 0, 1), -1);
            }
        });
        holds(36, "NOTHING;", () -> {
            LidsAndCombs x = full();
            same("an item of nothing", x, () -> {
                for (int i : new int[] {0, -1, 60, FAR_BELOW, FAR_ABOVE}) {
                    due("item(3, " + i + ", 1)", x.item(3, i, 1), -11);
                }
            });
        });
        holds(36, "PLACE.", () -> {
            LidsAndCombs x = full();
            same("an item of no place", x, () -> {
                for (int i : new int[] {-1, 3, 4, 60, FAR_BELOW, FAR_ABOVE}) {
                    due("item(0, " + i + ", 1)", x.item(0, i, 1), -13);
                }
                due("of an empty row: item(1, 0, 1)", x.item(1, 0, 1), -13);
            });
            x.tape(0, LONGS, 60);
            due("the last of 60", x.item(0, 59, 1), 1);
            due("behind the last of 60", x.item(0, 60, 1), -13);
        });
    }

    private static void read() {
        holds(37, "Item i of a TAPE.", () -> {
            LidsAndCombs x = nobody();
            x.tape(5, LONGS, 60);
            x.item(5, 0, 7);
            x.item(5, 59, Long.MAX_VALUE);
            due("the first", x.read(5, 0), 7);
            due("the last", x.read(5, 59), Long.MAX_VALUE);
            due("between them", x.read(5, 1), 0);
        });
        holds(37, "NO: no such TAPE, nothing there, no such place.", () -> {
            LidsAndCombs x = full();
            for (int tape : new int[] {-1, 6, FAR_BELOW, FAR_ABOVE}) {
                due("read(" + tape + ", 0)", x.read(tape, 0), NO);
            }
            for (int i : new int[] {-1, 0, FAR_BELOW, FAR_ABOVE}) {
                due("nothing there: read(3, " + i + ")", x.read(3, i), NO);
            }
            for (int i : new int[] {-1, 3, 60, FAR_BELOW, FAR_ABOVE}) {
                due("of three: read(0, " + i + ")", x.read(0, i), NO);
            }
            due("an empty row: read(1, 0)", x.read(1, 0), NO);
            x.tape(0, SHORTS, 2);
            due("of one that was longer: read(0, 2)", x.read(0, 2), NO);
            x.tape(0, -1, 0);
            due("of one that was there: read(0, 0)", x.read(0, 0), NO);
        });
    }

    /** A row of five longs on tape 0, of three on tape 1. */
    private static LidsAndCombs two() {
        LidsAndCombs x = nobody();
        x.tape(0, LONGS, 5);
        x.tape(1, LONGS, 3);
        for (int i = 0; i < 5; i++) {
            x.item(0, i, i + 1);
        }
        return x;
    }

    private static void items(LidsAndCombs x, int tape, long... want) {
        for (int i = 0; i < want.length; i++) {
            due("read(" + tape + ", " + i + ")", x.read(tape, i), want[i]);
        }
    }

    private static void shift() {
        holds(38, "n items of a TAPE from i on come to another one (or the same) from j on, as they all were before: n.", () -> {
            LidsAndCombs x = two();
            due("three to another", x.shift(0, 2, 1, 0, 3), 3);
            items(x, 1, 3, 4, 5);
            items(x, 0, 1, 2, 3, 4, 5);
            due("one further on in the same", x.shift(0, 0, 0, 1, 4), 4);
            items(x, 0, 1, 1, 2, 3, 4);
            due("one back in the same", x.shift(0, 1, 0, 0, 4), 4);
            items(x, 0, 1, 2, 3, 4, 4);
            due("where they are", x.shift(0, 0, 0, 0, 5), 5);
            items(x, 0, 1, 2, 3, 4, 4);
            due("none from the start", x.shift(0, 0, 1, 0, 0), 0);
            due("none from the end to the end", x.shift(0, 5, 1, 3, 0), 0);
            items(x, 1, 3, 4, 5);
            x.tape(2, LONGS, 0);
            due("none from an empty row", x.shift(2, 0, 2, 0, 0), 0);
            due("the last one", x.shift(0, 4, 1, 2, 1), 1);
            items(x, 1, 3, 4, 4);
            due("tape 5", x.tape(5, LONGS, 60) + x.shift(1, 0, 5, 57, 3), 4);
            due("its last", x.read(5, 59), 4);
        });
        holds(38, "NONE: tapes;", () -> {
            LidsAndCombs x = two();
            for (int tape : new int[] {-1, 6, FAR_BELOW, FAR_ABOVE}) {
                due("shift(" + tape + ", 0, 0, 0, 1)", x.shift(tape, 0, 0, 0, 1), -1);
                due("shift(0, 0, " + tape + ", 0, 1)", x.shift(0, 0, tape, 0, 1), -1);
            }
            items(x, 0, 1, 2, 3, 4, 5);
        });
        holds(38, "NOTHING;", () -> {
            LidsAndCombs x = two();
            due("shift(2, 0, 0, 0, 1)", x.shift(2, 0, 0, 0, 1), -11);
            due("shift(0, 0, 2, 0, 1)", x.shift(0, 0, 2, 0, 1), -11);
            due("shift(2, 0, 2, 0, 0)", x.shift(2, 0, 2, 0, 0), -11);
            due("shift(2, 0, 3, 0, 0)", x.shift(2, 0, 3, 0, 0), -11);
            items(x, 0, 1, 2, 3, 4, 5);
        });
        holds(38, "CAST: of unlike sorts;", () -> {
            for (int sort = 0; sort < 5; sort++) {
                for (int other = 0; other < 5; other++) {
                    LidsAndCombs x = nobody();
                    x.tape(0, sort, 1);
                    x.tape(1, other, 1);
                    x.item(0, 0, 1);
                    due("sorts " + sort + " and " + other, x.shift(0, 0, 1, 0, 1), sort == other ? 1 : -12);
                    due("the item", x.read(1, 0), sort == other ? 1 : 0);
                    due("none of them", x.shift(0, 0, 1, 0, 0), sort == other ? 0 : -12);
                }
            }
        });
    }

    private static void shiftRefused() {
        holds(38, "PLACE: n, i or j is below 0, or beyond either's end.", () -> {
            int[][] places = {{0, 0, -1}, {-1, 0, 1}, {0, -1, 1}, {-1, 0, 0}, {0, -1, 0}, {6, 0, 0}, {0, 4, 0}, {5, 0, 1}, {0, 3, 1},
                {3, 0, 3}, {0, 1, 3}, {0, 0, 4}, {0, 0, 6}, {0, 0, FAR_ABOVE}, {0, 0, FAR_BELOW}, {FAR_ABOVE, 0, 1},
                {FAR_BELOW, 0, 1}, {0, FAR_ABOVE, 1}, {0, FAR_BELOW, 1}, {FAR_ABOVE, FAR_ABOVE, FAR_ABOVE}, {1, 1, FAR_ABOVE}};
            for (int[] p : places) {
                LidsAndCombs x = two();
                due("shift(0, " + p[0] + ", 1, " + p[1] + ", " + p[2] + ")", x.shift(0, p[0], 1, p[1], p[2]), -13);
                items(x, 0, 1, 2, 3, 4, 5);
                items(x, 1, 0, 0, 0);
            }
            LidsAndCombs x = two();
            due("beyond the end of the same", x.shift(0, 0, 0, 1, 5), -13);
            due("to the end of both", x.shift(0, 2, 1, 0, 3), 3);
        });
    }
}
