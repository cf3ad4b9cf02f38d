/** Promises 19 to 23, sentence by sentence: what is seen, who can have been still, how loud, odds, means. */
final class EdgesOfSeen extends Edges {
    static void tell() {
        see();
        seeRefused();
        who();
        was();
        odds();
        mean();
    }

    private static void see() {
        holds(19, "SEEN told by hand: a PLAYER, its PACE (1 .. 200) behind n BEATS (0 .. 8) from now (5 at most).", () -> {
            LidsAndCombs x = loud(9, 9);
            int[][] rows = {{0, 1, 0}, {1, 200, 8}, {0, 200, 0}, {1, 1, 8}, {1, 200, 8}};
            for (int r = 0; r < 5; r++) {
                due("row " + r, x.see(rows[r][0], rows[r][1], rows[r][2]), r + 1);
                due("count(2)", x.count(2), r + 1);
            }
        });
        holds(19, "behind n BEATS (0 .. 8) from now", () -> {
            LidsAndCombs x = pair(50);
            x.see(1, 52, 1);
            due("52 behind one", x.who(), 2);
            x.pass(1);
            due("52 behind one again: if 0 were still", x.who(), 1);
            x.see(-1, 0, 0);
            x.see(1, 68, 8);
            due("68 behind eight", x.who(), 2);
        });
        holds(19, "What is SEEN comes: how many there are (player -1: none then, 0, whatever the others are).", () -> {
            LidsAndCombs x = loud(9);
            due("none of none", x.see(-1, 0, 0), 0);
            due("the first", x.see(0, 100, 0), 1);
            due("the second", x.see(0, 100, 0), 2);
            due("none, whatever", x.see(-1, 201, -1), 0);
            due("count(2)", x.count(2), 0);
            due("the first again", x.see(0, 99, 0), 1);
            due("none, whatever far", x.see(-1, FAR_ABOVE, FAR_BELOW), 0);
            due("nothing is seen", x.who(), 1);
            due("nobody: none", nobody().see(-1, 5, 5), 0);
        });
    }

    private static void seeRefused() {
        holds(19, "NONE;", () -> {
            due("nobody: see(0, 1, 0)", nobody().see(0, 1, 0), -1);
            LidsAndCombs x = full();
            same("see of none", x, () -> {
                for (int p : new int[] {-2, 3, 6, FAR_BELOW, FAR_ABOVE}) {
                    due("see(" + p + ", 1, 0)", x.see(p, 1, 0), -1);
                }
            });
        });
        holds(19, "BAD: pace, n;", () -> {
            LidsAndCombs x = full();
            same("see of what is not as told", x, () -> {
                for (int pace : new int[] {0, -1, 201, FAR_BELOW, FAR_ABOVE}) {
                    due("see(1, " + pace + ", 0)", x.see(1, pace, 0), -2);
                }
                for (int n : new int[] {-1, 9, FAR_BELOW, FAR_ABOVE}) {
                    due("see(1, 1, " + n + ")", x.see(1, 1, n), -2);
                }
            });
        });
        holds(19, "FULL: 5.", () -> {
            LidsAndCombs x = loud(9);
            for (int r = 0; r < 5; r++) {
                due("row " + r, x.see(0, 100, r), r + 1);
            }
            due("a sixth", x.see(0, 1, 0), -4);
            due("count(2)", x.count(2), 5);
            due("the sixth is not seen", x.who(), 1);
            due("none", x.see(-1, 0, 0), 0);
            due("room again", x.see(0, 1, 0), 1);
        });
    }

    private static void who() {
        holds(20, "WHO: those, as bits, by whom, were that one STILL now (and the others as they are), all of SEEN is so.", () -> {
            due("nobody", nobody().who(), 0);
            due("nothing seen", loud(9, 9, 9, 9, 9, 9).who(), 63);
            LidsAndCombs x = pair(50);
            x.see(1, 52, 1);
            due("0 was not", x.who(), 2);
            x.see(1, 50, 0);
            due("all of both", x.who(), 2);
            x.see(1, 51, 0);
            due("all of three: none", x.who(), 0);
            x = pair(50);
            x.see(1, 50, 8);
            due("0 was", x.who(), 1);
            x.hush(0, true);
            due("0 is, and the other with it", x.who(), 3);
            x = new LidsAndCombs();
            x.player(PLAYER, 0, 0, 0, 50);
            for (int p = 1; p < 6; p++) {
                x.player(DEAF, 0, 0, 0, 60);
            }
            x.set(5, 1, 40);
            x.see(0, 50, 1);
            due("the last of six", x.who(), 32);
            x.hush(1, true);
            due("the last, and one who is still anyway is not", x.who(), 32);
        });
        holds(20, "WHO, as bits.", () -> {
            LidsAndCombs x = pair(50);
            x.see(0, 100, 0);
            due("both", x.who(), 3);
            x.see(0, 99, 0);
            due("none", x.who(), 0);
        });
    }

    private static void was() {
        holds(21, "WAS of one: how many numbers (0 .. 99) there are by which, were it so LOUD now, all of SEEN is so; "
            + "the least (-5: none).", () -> {
            LidsAndCombs x = pair(50);
            due("nothing seen", x.was(0, 0), 100);
            due("nothing seen: the least", x.was(0, 1), 0);
            x.see(1, 50, 1);
            due("0 alone", x.was(0, 0), 1);
            due("0 is the least", x.was(0, 1), 0);
            x.see(-1, 0, 0);
            x.see(1, 52, 1);
            due("1 .. 99", x.was(0, 0), 99);
            due("1 is the least", x.was(0, 1), 1);
            x.see(1, 51, 1);
            due("none", x.was(0, 0), 0);
            due("no least", x.was(0, 1), -5);
            x = new LidsAndCombs();
            x.player(PLAYER, 0, 0, 0, 50);
            x.player(DEAF, 0, 0, 98, 10);
            x.player(DEAF, 0, 0, 5, 100);
            x.see(0, 52, 1);
            due("99 alone", x.was(2, 0), 1);
            due("99 is the least", x.was(2, 1), 99);
            x.set(1, 1, 99);
            due("100 is no number", x.was(2, 0), 0);
            due("nor the least", x.was(2, 1), -5);
            due("it is as loud as it was", x.of(2, 3), 5);
            x.hush(2, true);
            x.see(-1, 0, 0);
            x.see(0, 48, 8);
            due("of a still one, what is not seen", x.was(2, 0), 0);
            x.see(-1, 0, 0);
            x.see(0, 34, 8);
            due("of a still one, what is seen", x.was(2, 0), 100);
        });
        holds(21, "WAS: what 0 how many, 1 the least; -5.", () -> {
            LidsAndCombs x = pair(50);
            x.see(0, 99, 0);
            due("what 0", x.was(1, 0), 0);
            due("what 1", x.was(1, 1), -5);
        });
        holds(21, "NONE.", () -> {
            due("nobody: was(0, 0)", nobody().was(0, 0), -1);
            LidsAndCombs x = pair(50);
            for (int p : new int[] {-1, 2, 6, FAR_BELOW, FAR_ABOVE}) {
                due("was(" + p + ", 0)", x.was(p, 0), -1);
                due("was(" + p + ", 1)", x.was(p, 1), -1);
            }
            for (int what : new int[] {-1, 2, FAR_BELOW, FAR_ABOVE}) {
                due("was(0, " + what + ")", x.was(0, what), -1);
            }
        });
    }

    private static void fraction(String call, long above, long below, long wantAbove, long wantBelow) {
        due(call + " above", above, wantAbove);
        due(call + " below", below, wantBelow);
    }

    private static void odds(LidsAndCombs x, int n, long above, long below) {
        fraction("odds(" + n + ", ..)", x.odds(n, 0), x.odds(n, 1), above, below);
    }

    private static void odds() {
        holds(22, "ODDS of n BEATS (0 .. 30): if one of all, each alike likely, is STILL now, too: how likely SETTLES is n or less: "
            + "a fraction in lowest terms (NO: nobody is there).", () -> {
            odds(loud(9), 0, 1, 1);
            odds(paces(1, 2), 0, 1, 1);
            odds(paces(1, 2, 3), 30, 0, 1);
            odds(paces(1, 1, 2), 0, 1, 3);
            odds(paces(1, 1, 1, 2), 0, 1, 4);
            odds(paces(1, 1, 1, 1, 1, 2), 30, 1, 6);
            odds(paces(1, 1, 1), 30, 1, 1);
            LidsAndCombs x = pair(40);
            x.player(DEAF, 0, 0, 0, 100);
            // 0 still: 1 stays at 40; 1 still: the others are of one pace; 2 still: 30 beats.
            odds(x, 0, 1, 3);
            odds(x, 29, 1, 3);
            odds(x, 30, 2, 3);
            x.player(DEAF, 0, 0, 0, 100);
            odds(x, 29, 1, 4);
            odds(x, 30, 3, 4);
            x.hush(3, true);
            odds(x, 30, 3, 4);
            x.set(1, 2, 39);
            odds(x, 30, 1, 4);
            x.hush(1, true);
            odds(x, 0, 1, 1);
            LidsAndCombs y = paces(1, 1, 1, 2);
            y.hush(3, true);
            odds(y, 0, 1, 1);
            y = paces(1, 2, 3, 3);
            y.hush(2, true);
            odds(y, 30, 0, 1);
            y.hush(3, true);
            odds(y, 30, 1, 2);
            due("nobody is still by asking", x.told(6), 10);
        });
        holds(22, "ODDS; part 0 above, 1 below the line.", () -> {
            LidsAndCombs x = paces(1, 1, 2);
            due("part 0", x.odds(0, 0), 1);
            due("part 1", x.odds(0, 1), 3);
        });
        holds(22, "NO.", () -> {
            due("nobody: odds(0, 0)", nobody().odds(0, 0), NO);
            due("nobody: odds(0, 1)", nobody().odds(0, 1), NO);
            LidsAndCombs x = paces(1, 1, 2);
            for (int n : new int[] {-1, 31, 60, FAR_BELOW, FAR_ABOVE}) {
                due("odds(" + n + ", 0)", x.odds(n, 0), NO);
                due("odds(" + n + ", 1)", x.odds(n, 1), NO);
            }
            for (int part : new int[] {-1, 2, FAR_BELOW, FAR_ABOVE}) {
                due("odds(0, " + part + ")", x.odds(0, part), NO);
            }
        });
    }

    private static void mean(LidsAndCombs x, int n, long above, long below) {
        fraction("mean(" + n + ", ..)", x.mean(n, 0), x.mean(n, 1), above, below);
    }

    private static void mean() {
        holds(23, "MEAN of n BEATS (0 .. 60): PACE of all behind n, together, by how many they are: a fraction in lowest terms "
            + "(NO likewise).", () -> {
            mean(paces(1), 0, 1, 1);
            mean(paces(200), 60, 200, 1);
            mean(paces(1, 2), 0, 3, 2);
            mean(paces(1, 3), 0, 2, 1);
            mean(paces(1, 1, 2), 0, 4, 3);
            mean(paces(1, 1, 2, 2), 0, 3, 2);
            mean(paces(1, 1, 1, 2), 0, 5, 4);
            mean(paces(1, 1, 1, 1, 2, 2), 0, 4, 3);
            mean(paces(1, 1, 1, 2, 2, 2), 0, 3, 2);
            mean(paces(1, 1, 1, 1, 1, 2), 60, 7, 6);
            mean(paces(200, 200, 200, 200, 200, 200), 60, 200, 1);
            LidsAndCombs x = pair(50);
            mean(x, 0, 75, 1);
            mean(x, 1, 76, 1);
            mean(x, 24, 99, 1);
            mean(x, 60, 100, 1);
            x.hush(0, true);
            mean(x, 60, 75, 1);
        });
        holds(23, "MEAN; part likewise.", () -> {
            due("part 0", paces(1, 2).mean(0, 0), 3);
            due("part 1", paces(1, 2).mean(0, 1), 2);
        });
        holds(23, "NO.", () -> {
            due("nobody: mean(0, 0)", nobody().mean(0, 0), NO);
            due("nobody: mean(0, 1)", nobody().mean(0, 1), NO);
            LidsAndCombs x = paces(1, 2);
            for (int n : new int[] {-1, 61, FAR_BELOW, FAR_ABOVE}) {
                due("mean(" + n + ", 0)", x.mean(n, 0), NO);
                due("mean(" + n + ", 1)", x.mean(n, 1), NO);
            }
            for (int part : new int[] {-1, 2, FAR_BELOW, FAR_ABOVE}) {
                due("mean(0, " + part + ")", x.mean(0, part), NO);
            }
        });
    }
}
