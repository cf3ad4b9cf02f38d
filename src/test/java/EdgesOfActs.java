/** Promises 31 to 34, sentence by sentence: acts and their trace, for whom one is taken, how many there are. */
final class EdgesOfActs extends Edges {
    /** Behind a kind: its own number and those of the kinds above it. */
    private static final int[][] KINDS = {{0}, {1, 0}, {2, 0}, {3, 0}, {4, 1, 0}, {5, 2, 0}, {6, 3, 0}};

    static void tell() {
        act();
        wrapping();
        bodies();
        trace();
        taken();
        count();
    }

    /** One of a kind and v whose number is as told. */
    private static LidsAndCombs one(int kind, int v, int number) {
        LidsAndCombs x = new LidsAndCombs();
        for (int p = 0; p < number; p++) {
            x.player(PLAYER, 0, 0, 0, 1);
        }
        x.player(kind, v, 0, 0, 1);
        return x;
    }

    private static void act() {
        holds(31, "An ACT (0 beats, 1 plays, 2 tells) of a PLAYER with x.", () -> {
            LidsAndCombs x = one(PLAYER, 9, 5);
            int[][] acts = {{0, 10, 15}, {1, 10, 6}, {2, 10, 12}, {0, -5, 0}, {1, 4, 0}, {2, 4, 0}, {0, 0, 5}, {1, 0, -4}, {2, 0, -8}};
            for (int[] a : acts) {
                due("act(5, " + a[0] + ", " + a[1] + ")", x.act(5, a[0], a[1]), a[2]);
            }
        });
        holds(31, "0, and no TRACE then: no such PLAYER, act.", () -> {
            int[][] none = {{3, 0}, {6, 0}, {-1, 1}, {FAR_BELOW, 2}, {FAR_ABOVE, 2}, {0, 3}, {0, -1}, {0, FAR_BELOW}, {0, FAR_ABOVE}};
            for (int[] n : none) {
                LidsAndCombs x = full();
                due("there is a trace", x.trace(0), 71);
                due("act(" + n[0] + ", " + n[1] + ", 7)", x.act(n[0], n[1], 7), 0);
                due("no trace then", x.trace(0), -1);
                due("count(6)", x.count(6), 0);
            }
            due("nobody: act(0, 0, 7)", nobody().act(0, 0, 7), 0);
        });
    }

    private static void wrapping() {
        holds(31, "ACTS of a PLAYER with x (wrapping): 0 beats, 1 plays, 2 tells; i its number.", () -> {
            due("x and i", one(PLAYER, 0, 1).act(1, 0, FAR_ABOVE), FAR_BELOW);
            due("less v", one(PLAYER, 1, 0).act(0, 1, FAR_BELOW), FAR_ABOVE);
            due("twice", one(PLAYER, 0, 0).act(0, 2, 1 << 30), FAR_BELOW);
            due("twice the least", one(PLAYER, 0, 0).act(0, 2, FAR_BELOW), 0);
            due("three times", one(EAGER, 0, 0).act(0, 0, FAR_ABOVE), FAR_ABOVE - 2);
            due("three times the least", one(EAGER, 0, 0).act(0, 0, FAR_BELOW), FAR_BELOW);
            due("the other sign of the least", one(BUCKET, 0, 0).act(0, 0, FAR_BELOW), FAR_BELOW);
            due("x and 1", one(BUCKET, 0, 0).act(0, 1, FAR_ABOVE), FAR_BELOW ^ 6);
            due("x less i", one(SHINING, 0, 1).act(1, 2, FAR_BELOW), -4);
            due("two of them", one(TOLD, 0, 0).act(0, 1, FAR_ABOVE), FAR_BELOW + 1);
            due("and plays(1)", one(LITTLE, 0, 0).act(0, 2, (1 << 30) - 1), FAR_ABOVE);
            due("one more", one(LITTLE, 0, 1).act(1, 2, (1 << 30) - 1), FAR_BELOW + 2);
        });
    }

    private static void body(int kind, int act, int want, int... bodies) {
        LidsAndCombs x = one(kind, 5, 2);
        due("kind " + kind + ", v 5, number 2: act(2, " + act + ", 8)", x.act(2, act, 8), want);
        due("how many bodies", x.count(6), bodies.length);
        for (int i = 0; i < bodies.length; i++) {
            due("trace(" + i + ")", x.trace(i), bodies[i]);
        }
        due("behind these", x.trace(bodies.length), -1);
    }

    private static void bodies() {
        holds(31, "BODIES: PLAYER: 10 beats: x + i. 11 plays: beats(x) - v. 12 tells: plays(x) * 2.", () -> {
            body(PLAYER, 0, 10, 10);
            body(PLAYER, 1, 5, 11, 10);
            body(PLAYER, 2, 10, 12, 11, 10);
        });
        holds(31, "DEAF: 20 plays: super.plays(x) ^ 6.", () -> {
            body(DEAF, 0, 10, 10);
            body(DEAF, 1, 5 ^ 6, 20, 11, 10);
            body(DEAF, 2, (5 ^ 6) * 2, 12, 20, 11, 10);
        });
        holds(31, "EAGER: 30 beats: super.beats(x * 3).", () -> {
            body(EAGER, 0, 26, 30, 10);
            body(EAGER, 1, 21, 11, 30, 10);
            body(EAGER, 2, 42, 12, 11, 30, 10);
        });
        holds(31, "LITTLE: 40 tells: super.tells(x) + plays(1).", () -> {
            body(LITTLE, 0, 10, 10);
            body(LITTLE, 1, 5, 11, 10);
            body(LITTLE, 2, 10 - 2, 40, 12, 11, 10, 11, 10);
        });
        holds(31, "BUCKET: 50 beats: -super.beats(x). 51 plays: super.plays(x + 1).", () -> {
            body(BUCKET, 0, -10, 50, 10);
            body(BUCKET, 1, -16 ^ 6, 51, 20, 11, 50, 10);
            body(BUCKET, 2, (-16 ^ 6) * 2, 12, 51, 20, 11, 50, 10);
        });
        holds(31, "SHINING: 60 tells: super.tells(x - i).", () -> {
            body(SHINING, 0, 26, 30, 10);
            body(SHINING, 1, 21, 11, 30, 10);
            body(SHINING, 2, (18 + 2 - 5) * 2, 60, 12, 11, 30, 10);
        });
        holds(31, "TOLD: 70 plays: super.plays(x) + super.beats(2). 71 beats: super.beats(x) ^ v.", () -> {
            body(TOLD, 0, 10 ^ 5, 71, 10);
            body(TOLD, 1, 10 + 4, 70, 11, 71, 10, 10);
            body(TOLD, 2, 14 * 2 + ((3 ^ 5) - 5 + 4), 40, 12, 70, 11, 71, 10, 10, 70, 11, 71, 10, 10);
        });
        holds(31, "beats(..) and so on: the body of its KIND, or, if that has none, of the next KIND above that has one;", () -> {
            body(SHINING, 0, 26, 30, 10);
            body(BUCKET, 2, (-16 ^ 6) * 2, 12, 51, 20, 11, 50, 10);
            body(DEAF, 0, 10, 10);
        });
        holds(31, "super.beats(..): so from the KIND above the body's on; all that stands in a body is done from the left on.", () -> {
            body(BUCKET, 0, -10, 50, 10);
            body(SHINING, 2, 30, 60, 12, 11, 30, 10);
            body(TOLD, 1, 14, 70, 11, 71, 10, 10);
        });
    }

    private static void trace() {
        holds(32, "THE TRACE: the numbers of the bodies that ran in the latest act(), as they began; the first 20 are kept.", () -> {
            LidsAndCombs x = one(TOLD, 0, 0);
            due("none yet", x.trace(0), -1);
            x.act(0, 2, 1);
            int[] bodies = {40, 12, 70, 11, 71, 10, 10, 70, 11, 71, 10, 10};
            for (int i = 0; i < bodies.length; i++) {
                due("trace(" + i + ")", x.trace(i), bodies[i]);
            }
            due("no more", x.trace(12), -1);
            x.act(0, 0, 1);
            due("the latest alone", x.trace(0), 71);
            due("its second", x.trace(1), 10);
            due("nothing of the one ahead", x.trace(2), -1);
        });
        holds(32, "THE TRACE's i-th body.", () -> {
            LidsAndCombs x = one(BUCKET, 0, 0);
            x.act(0, 0, 1);
            due("trace(0)", x.trace(0), 50);
            due("trace(1)", x.trace(1), 10);
        });
        holds(32, "NONE.", () -> {
            LidsAndCombs x = one(TOLD, 0, 0);
            for (int i : new int[] {-1, 0, 1, 19, 20, FAR_BELOW, FAR_ABOVE}) {
                due("no act: trace(" + i + ")", x.trace(i), -1);
            }
            x.act(0, 2, 1);
            for (int i : new int[] {-1, 12, 19, 20, FAR_BELOW, FAR_ABOVE}) {
                due("trace(" + i + ")", x.trace(i), -1);
            }
        });
    }

    private static void taken() {
        holds(33, "0 PLAYER; 1 DEAF, 2 EAGER, 3 LITTLE under PLAYER; 4 BUCKET under DEAF; 5 SHINING under EAGER; 6 TOLD under LITTLE;",
            () -> {
                for (int kind = 0; kind < 7; kind++) {
                    for (int k = 0; k < 7; k++) {
                        boolean is = false;
                        for (int above : KINDS[kind]) {
                            is = is || above == k;
                        }
                        due("one of kind " + kind + " for " + k, one(kind, 0, 0).taken(0, k), is ? kind : -12);
                    }
                }
            });
        holds(33, "A PLAYER taken for one of KIND k (0 .. 6), or one under that: its KIND.", () -> {
            due("a player is one", one(PLAYER, 0, 0).taken(0, 0), 0);
            due("a told one is one", one(TOLD, 0, 5).taken(5, 0), 6);
            due("the last kind", one(TOLD, 0, 5).taken(5, 6), 6);
        });
        holds(33, "BAD: k;", () -> {
            for (int k : new int[] {-1, 7, FAR_BELOW, FAR_ABOVE}) {
                due("taken(0, " + k + ")", loud(9).taken(0, k), -2);
                due("nobody: taken(0, " + k + ")", nobody().taken(0, k), -2);
            }
        });
        holds(33, "NOTHING: no such PLAYER;", () -> {
            due("nobody: taken(0, 0)", nobody().taken(0, 0), -11);
            for (int p : new int[] {-1, 1, 6, FAR_BELOW, FAR_ABOVE}) {
                due("taken(" + p + ", 0)", loud(9).taken(p, 0), -11);
            }
        });
        holds(33, "CAST.", () -> {
            due("a player for a deaf one", one(PLAYER, 0, 0).taken(0, 1), -12);
            due("a deaf one for a bucket", one(DEAF, 0, 0).taken(0, 4), -12);
            due("a bucket for an eager one", one(BUCKET, 0, 0).taken(0, 2), -12);
        });
    }

    private static void count() {
        holds(34, "How many: 0 PLAYERS, 1 KITCHENS, 2 SEEN, 3 of the AFTERNOON, 4 of the BOOK, 5 bytes of THE TEXT, "
            + "6 bodies that ran in the latest act() (all, kept or not).", () -> {
            for (int what = 0; what <= 6; what++) {
                due("nobody: count(" + what + ")", nobody().count(what), 0);
            }
            LidsAndCombs x = loud(1, 2, 3, 4, 5, 6);
            for (int n = 0; n < 10; n++) {
                x.see(0, 1, 0);
                x.book(0, 1);
                x.afternoon(0, 0);
                x.afternoon(0, 0);
                Check.kitchen(x, "step 1");
                x.player(0, 0, 0, 0, 1);
            }
            for (int n = 0; n < 120; n++) {
                x.feed('x');
            }
            int[] most = {6, 6, 5, 10, 8, 100, 0};
            for (int what = 0; what <= 6; what++) {
                due("count(" + what + ")", x.count(what), most[what]);
            }
            x = one(TOLD, 1, 1);
            x.act(1, 2, 3);
            due("twelve bodies", x.count(6), 12);
            x.act(1, 0, 3);
            due("two bodies", x.count(6), 2);
        });
        holds(34, "BAD.", () -> {
            for (int what : new int[] {-1, 7, FAR_BELOW, FAR_ABOVE}) {
                due("count(" + what + ")", full().count(what), -2);
                due("nobody: count(" + what + ")", nobody().count(what), -2);
            }
        });
    }
}
