/** Promises 1 to 6, sentence by sentence: players, what is of them, and how that is changed. */
final class EdgesOfPlayers extends Edges {
    static void tell() {
        newObject();
        player();
        of();
        set();
        hush();
        row();
    }

    private static void newObject() {
        holds(1, "Nobody, no KITCHEN.", () -> {
            LidsAndCombs x = new LidsAndCombs();
            due("count(0)", x.count(0), 0);
            due("of(0, 0)", x.of(0, 0), -1001);
            due("count(1)", x.count(1), 0);
            due("count(5)", x.count(5), 0);
        });
        holds(1, "BEAT: 0 at first.", () -> due("told(0)", nobody().told(0), 0));
        holds(1, "EARNED: 0 at first.", () -> due("told(1)", nobody().told(1), 0));
        holds(1, "An object is used for at most 512 calls after it has been made; what later calls answer is free.", () -> {
            LidsAndCombs x = loud(7);
            for (int call = 2; call < 512; call++) {
                due("call " + call + ", pass(1)", x.pass(1), 7);
            }
            due("call 512, told(0)", x.told(0), 510);
        });
    }

    private static void player() {
        holds(2, "PLAYERS 0 .. 5, as they come, are of KINDS:", () -> {
            LidsAndCombs x = new LidsAndCombs();
            for (int p = 0; p < 6; p++) {
                due("player, the " + p + "th", x.player(6 - p, 0, 0, 0, 1), p);
                due("count(0)", x.count(0), p + 1);
            }
            for (int p = 0; p < 6; p++) {
                due("of(" + p + ", 0)", x.of(p, 0), 6 - p);
            }
        });
        holds(2, "A PLAYER: its number.", () -> due("player(0, 0, 0, 0, 1)", nobody().player(0, 0, 0, 0, 1), 0));
        holds(2, "NONE: kind;", () -> {
            for (int kind : new int[] {-1, 7, 8, -2, FAR_BELOW, FAR_ABOVE}) {
                due("player(" + kind + ", ..)", nobody().player(kind, 0, 0, 0, 1), -1);
            }
            for (int kind = 0; kind < 7; kind++) {
                due("player(" + kind + ", ..)", nobody().player(kind, 0, 0, 0, 1), 0);
            }
        });
        holds(2, "BAD: v, seat, loud, pace;", () -> {
            bounds(0, 0, 9);
            bounds(1, 0, 19);
            bounds(2, 0, 99);
            bounds(3, 1, 200);
        });
        holds(2, "with a number v (0 .. 9),", () -> {
            LidsAndCombs x = new LidsAndCombs();
            x.player(0, 0, 1, 1, 1);
            x.player(0, 9, 1, 1, 1);
            due("the least v", x.of(0, 1), 0);
            due("the most v", x.of(1, 1), 9);
        });
        holds(2, "a SEAT (0 .. 19, in a ring),", () -> {
            LidsAndCombs x = new LidsAndCombs();
            x.player(0, 1, 0, 1, 1);
            x.player(0, 1, 19, 20, 1);
            due("the least seat", x.of(0, 2), 0);
            due("the most seat", x.of(1, 2), 19);
            due("these are neighbours", x.of(0, 8), 18);
        });
        holds(2, "LOUD (0 .. 99),", () -> {
            LidsAndCombs x = loud(0, 99);
            due("the least loud", x.of(0, 3), 0);
            due("the most loud", x.of(1, 3), 99);
        });
        holds(2, "PACE (1 .. 200),", () -> {
            LidsAndCombs x = paces(1, 200);
            due("the least pace", x.of(0, 4), 1);
            due("the most pace", x.of(1, 4), 200);
        });
        holds(2, "STILL, or not (not at first).", () -> {
            LidsAndCombs x = loud(5);
            due("of(0, 5)", x.of(0, 5), 0);
            due("told(6)", x.told(6), 0);
            x.image();
            x.player(0, 0, 0, 5, 1);
            x.hush(1, true);
            x.undo();
            x.player(0, 0, 0, 5, 1);
            due("one who comes where a still one was", x.of(1, 5), 0);
        });
        holds(2, "FULL: 6.", () -> {
            LidsAndCombs x = loud(1, 2, 3, 4, 5);
            due("a sixth", x.player(0, 0, 0, 6, 1), 5);
            due("a seventh", x.player(0, 0, 0, 7, 1), -4);
            due("again", x.player(6, 9, 19, 99, 200), -4);
            due("count(0)", x.count(0), 6);
            due("NOISE", x.told(2), 21);
        });
    }

    /** Of player()'s number at a place behind the kind: just below and above its bounds, and at these. */
    private static void bounds(int place, int least, int most) {
        for (int n : new int[] {least - 1, most + 1, FAR_BELOW, FAR_ABOVE}) {
            due("number " + place + " is " + n, player(place, n), -2);
        }
        due("number " + place + " is " + least, player(place, least), 0);
        due("number " + place + " is " + most, player(place, most), 0);
    }

    private static int player(int place, int n) {
        int[] row = {1, 1, 1, 1};
        row[place] = n;
        return nobody().player(0, row[0], row[1], row[2], row[3]);
    }

    private static void of() {
        holds(3, "Of a PLAYER what 0 KIND, 1 v, 2 SEAT, 3 LOUD, 4 PACE, 5 whether it is STILL, 6 SOUND, "
            + "7 whom it FOLLOWS (-5), 8 DIN, 9 GOAL, 10 MORE.", () -> {
            LidsAndCombs x = new LidsAndCombs();
            x.player(EAGER, 4, 2, 30, 90);
            x.player(BUCKET, 3, 5, 10, 50);
            Check.kitchen(x, "softer 8 p=0");
            int[][] want = {{2, 4, 2, 30, 90, 0, 30, 1, 24, 54, -8}, {4, 3, 5, 10, 50, 0, 30, 0, 24, 50, 0}};
            for (int p = 0; p < 2; p++) {
                for (int what = 0; what <= 10; what++) {
                    due("of(" + p + ", " + what + ")", x.of(p, what), want[p][what]);
                }
            }
            due("0 alone follows nobody", loud(9).of(0, 7), -5);
            x.hush(1, true);
            due("1 is still", x.of(1, 5), 1);
            due("0 follows nobody", x.of(0, 7), -5);
        });
        holds(3, "-1001: NONE.", () -> {
            due("nobody: of(0, 0)", nobody().of(0, 0), -1001);
            LidsAndCombs x = loud(5, 6);
            for (int p : new int[] {-1, 2, 6, FAR_BELOW, FAR_ABOVE}) {
                due("of(" + p + ", 0)", x.of(p, 0), -1001);
            }
            for (int what : new int[] {-1, 11, 12, FAR_BELOW, FAR_ABOVE}) {
                due("of(1, " + what + ")", x.of(1, what), -1001);
            }
            x = loud(1, 2, 3, 4, 5, 6);
            due("of(5, 3)", x.of(5, 3), 6);
            due("of(6, 3)", x.of(6, 3), -1001);
        });
        holds(3, "SOUND of a PLAYER (0, if it is STILL): PLAYER, DEAF, EAGER, LITTLE, TOLD: LOUD.", () -> {
            for (int kind : new int[] {PLAYER, DEAF, EAGER, LITTLE, TOLD}) {
                for (int loud : new int[] {0, 1, 29, 99}) {
                    LidsAndCombs x = new LidsAndCombs();
                    x.player(kind, 0, 0, loud, 1);
                    due("kind " + kind + ", " + loud + " loud", x.of(0, 6), loud);
                    x.hush(0, true);
                    due("kind " + kind + ", still", x.of(0, 6), 0);
                    due("and as loud as it was", x.of(0, 3), loud);
                }
            }
        });
        holds(3, "BUCKET: LOUD, but 30 at least.", () -> {
            LidsAndCombs x = new LidsAndCombs();
            x.player(BUCKET, 0, 0, 0, 1);
            int[][] sounds = {{0, 30}, {29, 30}, {30, 30}, {31, 31}, {99, 99}};
            for (int[] s : sounds) {
                x.set(0, 1, s[0]);
                due(s[0] + " loud: SOUND", x.of(0, 6), s[1]);
                due(s[0] + " loud: LOUD", x.of(0, 3), s[0]);
            }
            x.hush(0, true);
            due("a still one", x.of(0, 6), 0);
        });
        holds(3, "SHINING: twice LOUD, if BEAT modulo how many PLAYERS there are is its number, else LOUD.", () -> {
            LidsAndCombs x = new LidsAndCombs();
            x.player(DEAF, 0, 0, 0, 1);
            x.player(DEAF, 0, 0, 0, 1);
            x.player(SHINING, 0, 0, 99, 1);
            int[] sounds = {99, 99, 198, 99, 99, 198, 99, 99, 198};
            for (int beat = 0; beat < sounds.length; beat++) {
                due("2 of three at beat " + beat, x.of(2, 6), sounds[beat]);
                x.pass(1);
            }
            x = new LidsAndCombs();
            x.player(SHINING, 0, 0, 3, 1);
            for (int beat = 0; beat < 3; beat++) {
                due("one alone at beat " + beat, x.of(0, 6), 6);
                x.pass(1);
            }
            x.player(DEAF, 0, 0, 0, 1);
            due("beat 3 of two", x.of(0, 6), 3);
            x.pass(1);
            due("beat 4 of two", x.of(0, 6), 6);
            x.hush(0, true);
            due("still at its beat", x.of(0, 6), 0);
        });
        holds(3, "NOISE: SOUND of all, together.", () -> {
            due("of nobody", nobody().told(2), 0);
            LidsAndCombs x = loud(99, 99, 99, 99, 99);
            x.player(SHINING, 0, 0, 99, 1);
            due("of six", x.told(2), 594);
            due("of six when it shines", x.on(5, 0), 693);
            for (int p = 0; p < 6; p++) {
                x.hush(p, true);
            }
            due("of still ones", x.told(2), 0);
        });
    }

    private static void set() {
        holds(4, "Of a PLAYER what 0 SEAT, 1 LOUD, 2 PACE becomes n: what it was.", () -> {
            int[][] bounds = {{0, 19}, {0, 99}, {1, 200}};
            for (int what = 0; what < 3; what++) {
                LidsAndCombs x = new LidsAndCombs();
                x.player(PLAYER, 0, 7, 7, 7);
                x.player(PLAYER, 0, 7, 7, 7);
                due("the least", x.set(1, what, bounds[what][0]), 7);
                due("is so", x.of(1, 2 + what), bounds[what][0]);
                due("the most", x.set(1, what, bounds[what][1]), bounds[what][0]);
                due("is so", x.of(1, 2 + what), bounds[what][1]);
                due("the same again", x.set(1, what, bounds[what][1]), bounds[what][1]);
                due("another one's", x.of(0, 2 + what), 7);
                for (int other = 0; other < 3; other++) {
                    due("what else is of it", x.of(1, 2 + other), other == what ? bounds[what][1] : 7);
                }
                x.hush(1, true);
                due("of a still one", x.set(1, what, 9), bounds[what][1]);
                due("is so", x.of(1, 2 + what), 9);
                due("it is still", x.of(1, 5), 1);
            }
        });
        holds(4, "NONE;", () -> {
            due("nobody: set(0, 0, 0)", nobody().set(0, 0, 0), -1);
            LidsAndCombs x = full();
            same("set of none", x, () -> {
                for (int p : new int[] {-1, 3, 6, FAR_BELOW, FAR_ABOVE}) {
                    due("set(" + p + ", 1, 1)", x.set(p, 1, 1), -1);
                }
                for (int what : new int[] {-1, 3, 4, FAR_BELOW, FAR_ABOVE}) {
                    due("set(0, " + what + ", 1)", x.set(0, what, 1), -1);
                }
            });
        });
        holds(4, "BAD.", () -> {
            LidsAndCombs x = full();
            int[][] bad = {{0, -1}, {0, 20}, {1, -1}, {1, 100}, {2, 0}, {2, 201}, {2, -1}};
            same("set to what is not as told", x, () -> {
                for (int[] b : bad) {
                    due("set(1, " + b[0] + ", " + b[1] + ")", x.set(1, b[0], b[1]), -2);
                }
                for (int what = 0; what < 3; what++) {
                    due("set(1, " + what + ", far below)", x.set(1, what, FAR_BELOW), -2);
                    due("set(1, " + what + ", far above)", x.set(1, what, FAR_ABOVE), -2);
                }
            });
        });
    }

    private static void hush() {
        holds(5, "A PLAYER is STILL, or not: whether it was.", () -> {
            LidsAndCombs x = loud(1, 2, 4, 8, 16, 32);
            due("one who was not", x.hush(5, true), 0);
            due("one who was", x.hush(5, true), 1);
            due("who is still", x.told(6), 32);
            due("no more", x.hush(5, false), 1);
            due("nor again", x.hush(5, false), 0);
            due("nobody is still", x.told(6), 0);
            for (int p = 0; p < 6; p++) {
                due("hush(" + p + ", true)", x.hush(p, true), 0);
            }
            due("all are still", x.told(6), 63);
            due("NOISE", x.told(2), 0);
        });
        holds(5, "NONE.", () -> {
            due("nobody: hush(0, true)", nobody().hush(0, true), -1);
            LidsAndCombs x = full();
            same("hush of none", x, () -> {
                for (int p : new int[] {-1, 3, 6, 32, FAR_BELOW, FAR_ABOVE}) {
                    due("hush(" + p + ", true)", x.hush(p, true), -1);
                    due("hush(" + p + ", false)", x.hush(p, false), -1);
                }
            });
        });
    }

    private static LidsAndCombs toldOne() {
        LidsAndCombs x = new LidsAndCombs();
        x.player(PLAYER, 0, 0, 0, 1);
        x.player(TOLD, 0, 0, 0, 10);
        return x;
    }

    private static void row() {
        holds(6, "The ROW of a TOLD one becomes n (0 .. 9) for BEATS modulo 4 being part: what it was.", () -> {
            LidsAndCombs x = toldOne();
            for (int part = 0; part < 4; part++) {
                due("row(1, " + part + ", 9)", x.row(1, part, 9), 0);
                due("row(1, " + part + ", 5)", x.row(1, part, 5 + part), 9);
            }
            for (int part = 0; part < 4; part++) {
                due("row(1, " + part + ", 0)", x.row(1, part, 0), 5 + part);
                due("row(1, " + part + ", 1)", x.row(1, part, 1), 0);
            }
        });
        holds(6, "NONE: player, part;", () -> {
            due("nobody: row(0, 0, 0)", nobody().row(0, 0, 0), -1);
            LidsAndCombs x = full();
            same("row of none", x, () -> {
                for (int p : new int[] {-1, 3, FAR_BELOW, FAR_ABOVE}) {
                    due("row(" + p + ", 0, 1)", x.row(p, 0, 1), -1);
                }
                for (int part : new int[] {-1, 4, FAR_BELOW, FAR_ABOVE}) {
                    due("row(1, " + part + ", 1)", x.row(1, part, 1), -1);
                    due("of another kind: row(0, " + part + ", 1)", x.row(0, part, 1), -1);
                }
            });
        });
        holds(6, "BAD;", () -> {
            LidsAndCombs x = full();
            same("row to what is not as told", x, () -> {
                for (int n : new int[] {-1, 10, FAR_BELOW, FAR_ABOVE}) {
                    for (int part = 0; part < 4; part++) {
                        due("row(1, " + part + ", " + n + ")", x.row(1, part, n), -2);
                    }
                }
            });
        });
        holds(6, "STATE: another KIND.", () -> {
            LidsAndCombs x = new LidsAndCombs();
            for (int kind = 0; kind < 6; kind++) {
                x.player(kind, 0, 0, 0, 1);
            }
            for (int p = 0; p < 6; p++) {
                due("of kind " + p, x.row(p, 3, 1), -3);
                due("of kind " + p + ": how it goes on", x.on(9, 10 + p), 1);
            }
        });
    }
}
