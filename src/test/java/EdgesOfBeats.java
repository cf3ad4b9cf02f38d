/** Promises 10 to 14, sentence by sentence: beats, how all is behind them, when she wakes, when it settles, who leads. */
final class EdgesOfBeats extends Edges {
    static void tell() {
        pass();
        beat();
        paces();
        louds();
        earned();
        on();
        beyond();
        wakes();
        settles();
        leader();
    }

    /** As it was, but at the last beat there is. */
    static LidsAndCombs atLastBeat(LidsAndCombs x) {
        for (int n = 0; n < 166; n++) {
            x.pass(60);
        }
        x.pass(39);
        return x;
    }

    private static void pass() {
        holds(10, "n BEATS (0 .. 60) go: NOISE then.", () -> {
            LidsAndCombs x = with(loud(1), "louder 1 p=0");
            due("pass(0)", x.pass(0), 1);
            due("BEAT", x.told(0), 0);
            due("pass(1)", x.pass(1), 2);
            due("BEAT", x.told(0), 1);
            due("pass(60)", x.pass(60), 62);
            due("BEAT", x.told(0), 61);
            due("nobody: pass(60)", nobody().pass(60), 0);
        });
        holds(10, "BAD;", () -> {
            LidsAndCombs x = full();
            same("pass of what is not as told", x, () -> {
                for (int n : new int[] {-1, 61, FAR_BELOW, FAR_ABOVE}) {
                    due("pass(" + n + ")", x.pass(n), -2);
                }
            });
        });
        holds(10, "STATE: BEAT would be above 9999.", () -> {
            LidsAndCombs x = loud(3);
            for (int n = 0; n < 166; n++) {
                x.pass(60);
            }
            due("BEAT", x.told(0), 9960);
            due("pass(40)", x.pass(40), -3);
            due("pass(60)", x.pass(60), -3);
            due("BEAT", x.told(0), 9960);
            due("pass(39)", x.pass(39), 3);
            due("BEAT", x.told(0), 9999);
            due("pass(1)", x.pass(1), -3);
            due("pass(0)", x.pass(0), 3);
            due("BEAT", x.told(0), 9999);
        });
        holds(10, "BEAT is 1 more.", () -> {
            LidsAndCombs x = nobody();
            x.pass(1);
            due("told(0)", x.told(0), 1);
            x.pass(7);
            due("told(0)", x.told(0), 8);
        });
    }

    private static void beat() {
        holds(10, "A BEAT goes, all of it by how all is ahead of it.", () -> {
            LidsAndCombs x = new LidsAndCombs();
            x.player(PLAYER, 0, 0, 19, 100);
            x.player(PLAYER, 0, 0, 19, 120);
            Check.kitchen(x, "step 99;louder 10 l=1&b=0;louder 20 l=2;louder 40 b=1;louder 1 p=0&c=10;pay 1;wake 39");
            x.pass(1);
            due("each takes the pace that the other had: 0", x.of(0, 4), 120);
            due("each takes the pace that the other had: 1", x.of(1, 4), 100);
            due("MORE by LOUD, PACE and BEAT ahead of it, DIN as much as SOUND: 0", x.of(0, 3), 30);
            due("and 1", x.of(1, 3), 29);
            due("EARNED by NOISE ahead of it", x.told(1), 38);
        });
    }

    private static LidsAndCombs follower(int from, int to, String kitchen) {
        LidsAndCombs x = new LidsAndCombs();
        x.player(PLAYER, 0, 0, 0, from);
        x.player(DEAF, 0, 0, 40, to);
        return with(x, kitchen);
    }

    private static void paces() {
        holds(10, "PACE of each comes nearer to GOAL by STEP, but no further than GOAL (1 .. 200).", () -> {
            int[][] ways = {{100, 100, 100}, {100, 101, 101}, {100, 102, 102}, {100, 103, 102}, {100, 200, 102}, {100, 99, 99},
                {100, 98, 98}, {100, 97, 98}, {100, 1, 98}, {1, 200, 3}, {200, 1, 198}, {2, 1, 1}, {199, 200, 200}};
            for (int[] w : ways) {
                due("from " + w[0] + " to " + w[1], follower(w[0], w[1], "").on(1, 10), w[2]);
            }
            due("step 0", follower(1, 200, "step 0").on(60, 10), 1);
            due("step 99", follower(1, 200, "step 99").on(1, 10), 100);
            due("step 99, three times", follower(1, 200, "step 99").on(3, 10), 200);
            due("down by step 99, three times", follower(200, 1, "step 99").on(3, 10), 1);
            LidsAndCombs x = follower(100, 110, "");
            x.hush(0, true);
            due("a still one's comes nearer too", x.on(1, 10), 102);
            x = new LidsAndCombs();
            x.player(EAGER, 9, 0, 0, 192);
            due("to 201: no further than 200", with(x, "step 99").on(1, 10), 200);
            due("and then", x.on(60, 10), 200);
            x.player(SHINING, 1, 10, 0, 200);
            due("200 and 1 more", x.on(1, 11), 200);
            x.player(TOLD, 0, 5, 0, 199);
            x.row(2, 0, 9);
            due("199 and 9 of its row", x.on(1, 12), 200);
        });
    }

    private static void louds() {
        holds(10, "LOUD of each that is not STILL is MORE more, and 3 besides, if DIN of it is more than its SOUND "
            + "(held to 0 .. 99).", () -> {
            int[][] two = {{50, 50, 50, 50}, {50, 51, 53, 51}, {0, 0, 0, 0}, {0, 1, 3, 1}, {97, 99, 99, 99}, {96, 97, 99, 97},
                {95, 96, 98, 96}};
            for (int[] t : two) {
                LidsAndCombs x = loud(t[0], t[1]);
                x.pass(1);
                due(t[0] + " beside " + t[1], x.of(0, 3), t[2]);
                due(t[1] + " beside " + t[0], x.of(1, 3), t[3]);
            }
            int[][] alone = {{50, 60}, {89, 99}, {90, 99}, {99, 99}, {0, 10}};
            for (int[] a : alone) {
                due(a[0] + " and 10", with(loud(a[0]), "louder 10 p=0").on(1, 20), a[1]);
            }
            int[][] softer = {{50, 40}, {11, 1}, {10, 0}, {9, 0}, {0, 0}};
            for (int[] s : softer) {
                due(s[0] + " less 10", with(loud(s[0]), "softer 10 p=0").on(1, 20), s[1]);
            }
            due("1 less 5 and 3: held behind both", with(loud(1, 9), "softer 5 p=0").on(1, 20), 0);
            due("3 less 5 and 3", with(loud(3, 9), "softer 5 p=0").on(1, 20), 1);
        });
        holds(10, "LOUD of each that is not STILL", () -> {
            LidsAndCombs x = with(loud(20, 50), "louder 7 p<2");
            x.hush(0, true);
            x.pass(1);
            due("a still one", x.of(0, 3), 20);
            due("one who is not", x.of(1, 3), 57);
            x.hush(0, false);
            x.pass(1);
            due("no more still", x.of(0, 3), 30);
        });
        holds(10, "if DIN of it is more than its SOUND", () -> {
            LidsAndCombs x = new LidsAndCombs();
            x.player(BUCKET, 0, 0, 0, 1);
            x.player(DEAF, 0, 0, 30, 1);
            due("a bucket's SOUND is 30", x.on(1, 20), 0);
            x.set(1, 1, 31);
            due("31 is more", x.on(1, 20), 3);
            x = new LidsAndCombs();
            x.player(SHINING, 0, 0, 20, 1);
            x.player(DEAF, 0, 0, 40, 1);
            due("one who shines hears itself at 40", x.on(1, 20), 20);
            due("and at 20 when it does not shine", x.on(2, 20), 23);
            x.set(1, 1, 41);
            due("41 is more", x.on(1, 20), 23);
        });
    }

    private static void earned() {
        holds(10, "EARNED is NOISE by PAY (cut) more, if NOISE is less than WAKE, else 10 less (held to 0 .. 99999).", () -> {
            int[][] first = {{0, 0}, {4, 0}, {5, 1}, {9, 1}, {10, 2}, {59, 11}, {60, 0}, {61, 0}};
            for (int[] f : first) {
                due(f[0] + " loud", loud(f[0]).on(1, 1), f[1]);
            }
            due("wake 1, nobody", with(nobody(), "wake 1").on(1, 1), 0);
            int[][] less = {{9, 0}, {10, 0}, {11, 1}, {50, 40}};
            for (int[] l : less) {
                LidsAndCombs x = with(loud(l[0]), "pay 1");
                x.pass(1);
                due("EARNED", x.told(1), l[0]);
                x.set(0, 1, 60);
                x.pass(1);
                due("10 less than " + l[0], x.told(1), l[1]);
            }
            LidsAndCombs x = with(loud(98), "wake 99;pay 0");
            for (int n = 0; n < 17; n++) {
                x.pass(60);
            }
            due("98 each", x.told(1), 99960);
            x.set(0, 1, 39);
            due("99999", x.on(1, 1), 99999);
            x.set(0, 1, 40);
            due("not above 99999", x.on(1, 1), 99999);
            x.pass(2);
            due("nor behind two", x.told(1), 99999);
            Check.kitchen(x, "wake 40");
            x.pass(1);
            due("10 less", x.told(1), 99989);
        });
        holds(10, "NOISE by PAY (cut) more,", () -> {
            due("9 by 10", with(loud(9), "pay 10").on(60, 1), 0);
            due("19 by 10, each time", with(loud(19), "pay 10").on(60, 1), 60);
            due("98 by 99", with(loud(98), "pay 99;wake 99").on(60, 1), 0);
            due("98 by 0: by 1", with(loud(98), "pay 0;wake 99").on(60, 1), 5880);
        });
        holds(10, "if NOISE is less than WAKE, else 10 less", () -> {
            LidsAndCombs x = with(loud(58, 1), "wake 60;pay 1");
            x.pass(1);
            due("59", x.told(1), 59);
            x.set(1, 1, 2);
            x.pass(1);
            due("60", x.told(1), 49);
            x.hush(1, true);
            x.pass(1);
            due("58 without a still one", x.told(1), 107);
            due("wake 0", with(x, "wake 0").on(1, 1), 97);
        });
    }

    private static void on() {
        holds(11, "ON n BEATS (0 .. 60): NOISE; EARNED; PACE, LOUD of one.", () -> {
            LidsAndCombs x = with(pair(20), "softer 3 p=1;louder 1 p=0;pay 1;wake 99");
            int[][] want = {{0, 40, 0, 20, 40}, {1, 41, 40, 22, 41}, {2, 42, 81, 24, 42}, {60, 99, 4061, 100, 99}};
            for (int[] w : want) {
                due("on(" + w[0] + ", 0)", x.on(w[0], 0), w[1]);
                due("on(" + w[0] + ", 1)", x.on(w[0], 1), w[2]);
                due("on(" + w[0] + ", 11)", x.on(w[0], 11), w[3]);
                due("on(" + w[0] + ", 20)", x.on(w[0], 20), w[4]);
            }
        });
        holds(11, "ON: what 0 NOISE, 1 EARNED, 10 and p PACE, 20 and p LOUD.", () -> {
            LidsAndCombs x = new LidsAndCombs();
            for (int p = 0; p < 6; p++) {
                x.player(DEAF, 0, 0, p, 50 + p);
            }
            due("what 0", x.on(0, 0), 15);
            due("what 1", x.on(0, 1), 0);
            for (int p = 0; p < 6; p++) {
                due("what 1" + p, x.on(0, 10 + p), 50 + p);
                due("what 2" + p, x.on(0, 20 + p), p);
            }
            due("nobody: NOISE", nobody().on(60, 0), 0);
            due("nobody: EARNED", nobody().on(60, 1), 0);
        });
        holds(11, "NONE;", () -> {
            LidsAndCombs x = loud(1, 2, 3, 4, 5, 6);
            for (int what : new int[] {-1, 2, 9, 16, 19, 26, 30, FAR_BELOW, FAR_BELOW + 10, FAR_BELOW + 20, FAR_ABOVE}) {
                due("on(1, " + what + ")", x.on(1, what), -1);
            }
            due("nobody: on(0, 10)", nobody().on(0, 10), -1);
            due("nobody: on(0, 20)", nobody().on(0, 20), -1);
            due("two: on(0, 12)", loud(1, 2).on(0, 12), -1);
            due("two: on(0, 22)", loud(1, 2).on(0, 22), -1);
        });
        holds(11, "BAD: n.", () -> {
            LidsAndCombs x = loud(1, 2);
            for (int n : new int[] {-1, 61, FAR_BELOW, FAR_ABOVE}) {
                for (int what : new int[] {0, 1, 10, 11, 20, 21}) {
                    due("on(" + n + ", " + what + ")", x.on(n, what), -2);
                }
            }
        });
    }

    private static void beyond() {
        holds(11, "All that follows is asked, goes on from how all is (BEATS also beyond 9999), and changes nothing.", () -> {
            LidsAndCombs x = atLastBeat(pair(100));
            Check.kitchen(x, "louder 40 b=0&p=0;wake 45;pay 1");
            x.set(0, 1, 4);
            x.set(1, 1, 0);
            x.set(1, 2, 99);
            due("BEAT", x.told(0), 9999);
            due("on(1, 20): b is 9", x.on(1, 20), 4);
            due("on(2, 20): b is 0", x.on(2, 20), 44);
            due("on(2, 0): 1 is louder by 3 each time", x.on(2, 0), 50);
            due("wakes()", x.wakes(), 2);
            due("settles()", x.settles(), 1);
            due("leader(60)", x.leader(60), 0);
            due("quick(1)", x.quick(1), 40);
            due("mean(0, 0)", x.mean(0, 0), 199);
            due("mean(60, 1)", x.mean(60, 1), 1);
            due("odds(30, 0)", x.odds(30, 0), 1);
            due("whoHush()", x.whoHush(), 0);
            due("best(60)", x.best(60), 2);
            x.afternoon(0, 0);
            x.afternoon(0, 0);
            due("gone(0)", x.gone(0), 50);
            x.see(1, 100, 8);
            due("who()", x.who(), 2);
            due("was(0, 0)", x.was(0, 0), 100);
            due("seats()", x.seats(), -5);
            due("BEAT is as it was", x.told(0), 9999);
        });
    }

    private static void wakes() {
        holds(12, "WAKES: the fewest BEATS (0 .. 60) behind which NOISE is WAKE or more (-5: not by then).", () -> {
            due("60 now", loud(60).wakes(), 0);
            due("61 now", loud(61).wakes(), 0);
            due("59 for ever", loud(59).wakes(), -5);
            due("59 and one more", with(loud(59), "louder 1 p=0").wakes(), 1);
            due("0 and one more: behind sixty", with(loud(0), "louder 1 p=0").wakes(), 60);
            due("behind sixty-one", with(loud(0), "louder 1 p=0;wake 61").wakes(), -5);
            due("nobody", nobody().wakes(), -5);
            due("nobody, wake 0", with(nobody(), "wake 0").wakes(), 0);
            due("nobody, wake 1", with(nobody(), "wake 1").wakes(), -5);
            due("only for one beat", with(loud(50), "louder 10 b=0;softer 10 b=1").wakes(), 1);
            LidsAndCombs x = new LidsAndCombs();
            x.player(DEAF, 0, 0, 0, 1);
            x.player(DEAF, 0, 0, 0, 1);
            x.player(SHINING, 0, 0, 30, 1);
            due("when it shines", x.wakes(), 2);
        });
        holds(12, "WAKES; -5.", () -> {
            LidsAndCombs x = loud(30, 30);
            due("both", x.wakes(), 0);
            x.hush(1, true);
            due("one of them", x.wakes(), -5);
        });
    }

    private static void settles() {
        holds(13, "SETTLES: the fewest BEATS (0 .. 60) behind which all who are not STILL are of one PACE "
            + "(-5: not by then; 0: nobody is so).", () -> {
            due("nobody is there", nobody().settles(), 0);
            due("one", paces(7).settles(), 0);
            due("two of one pace", paces(7, 7).settles(), 0);
            due("two who are not", paces(7, 8).settles(), -5);
            LidsAndCombs x = paces(7, 8, 7);
            x.hush(1, true);
            due("a still one is not looked at", x.settles(), 0);
            x.hush(0, true);
            due("one who is not still", x.settles(), 0);
            x.hush(2, true);
            due("nobody is not still", x.settles(), 0);
            x.hush(0, false);
            x.hush(1, false);
            due("the first two are not of one pace", x.settles(), -5);
            due("nearer by 2", pair(98).settles(), 1);
            due("3 off", pair(97).settles(), 2);
            due("from above", pair(103).settles(), 2);
            LidsAndCombs y = pair(40);
            due("60 by 2", y.settles(), 30);
            Check.kitchen(y, "softer 3 p=1;step 1");
            due("behind sixty", y.settles(), 60);
            y.set(1, 2, 39);
            due("behind sixty-one", y.settles(), -5);
            y.set(1, 2, 160);
            due("behind sixty from above", y.settles(), 60);
            y.set(1, 2, 161);
            due("behind sixty-one from above", y.settles(), -5);
        });
        holds(13, "SETTLES; -5.", () -> {
            due("step 0", with(pair(99), "step 0").settles(), -5);
            due("step 0, settled", with(pair(100), "step 0").settles(), 0);
        });
    }

    private static void leader() {
        holds(14, "LEADER of n BEATS (0 .. 60): whom most of those who are not STILL FOLLOW behind them "
            + "(of several the first; -5: they follow nobody).", () -> {
            due("nobody is there", nobody().leader(0), -5);
            due("one alone", loud(9).leader(60), -5);
            due("two silent ones", loud(0, 0).leader(60), -5);
            LidsAndCombs x = loud(9, 9);
            due("each follows the other: the first", x.leader(0), 0);
            x = loud(9, 9, 9);
            due("1 and 2 follow 0, 0 follows 1", x.leader(0), 0);
            x = loud(0, 0, 9);
            due("two follow 2", x.leader(0), 2);
            x.hush(0, true);
            due("one of them is still", x.leader(0), 2);
            x.hush(1, true);
            due("both are still", x.leader(0), -5);
            x = loud(8, 9, 7);
            due("two follow 1", x.leader(0), 1);
            x.hush(2, true);
            due("one follows 1, one 0", x.leader(0), 0);
            x = with(loud(1, 0), "louder 1 p=1;softer 4 p=0");
            due("now", x.leader(0), 0);
            due("behind one beat", x.leader(1), 1);
            due("behind sixty beats", x.leader(60), 1);
            due("of six all follow the last", loud(0, 0, 0, 0, 0, 1).leader(0), 5);
        });
        holds(14, "LEADER; -5.", () -> {
            due("seats too far apart", seats(20, 20).leader(60), -5);
            due("not too far", seats(20, 21).leader(0), 1);
            LidsAndCombs x = loud(9, 9);
            x.hush(0, true);
            x.hush(1, true);
            due("all are still", x.leader(60), -5);
        });
        holds(14, "BAD.", () -> {
            for (int n : new int[] {-1, 61, FAR_BELOW, FAR_ABOVE}) {
                due("leader(" + n + ")", loud(9, 9).leader(n), -2);
                due("nobody: leader(" + n + ")", nobody().leader(n), -2);
            }
        });
    }

    /** Two deaf ones across the ring from each other. */
    private static LidsAndCombs seats(int loud, int loudOfOther) {
        LidsAndCombs x = new LidsAndCombs();
        x.player(DEAF, 0, 0, loud, 1);
        x.player(DEAF, 0, 10, loudOfOther, 1);
        return x;
    }
}
