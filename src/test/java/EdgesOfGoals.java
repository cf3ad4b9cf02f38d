/** Promise 3, sentence by sentence: whom one hears and follows, what pace one is after, how much louder one gets. */
final class EdgesOfGoals extends Edges {
    static void tell() {
        heard();
        followed();
        goals();
        littleGoals();
        toldGoals();
        more();
    }

    private static LidsAndCombs twoInSeats(int one, int other, int loudOfOther) {
        LidsAndCombs x = new LidsAndCombs();
        x.player(PLAYER, 0, one, 0, 100);
        x.player(PLAYER, 0, other, loudOfOther, 50);
        return x;
    }

    private static void heard() {
        holds(3, "WAY of two: how many SEATS the one is from the other, the shorter way in the ring.", () -> {
            int[][] ways = {{0, 0, 0}, {19, 19, 0}, {0, 1, 1}, {0, 19, 1}, {19, 0, 1}, {0, 9, 9}, {0, 10, 10}, {10, 0, 10},
                {0, 11, 9}, {11, 0, 9}, {5, 15, 10}, {5, 16, 9}, {19, 9, 10}, {19, 8, 9}, {18, 1, 3}, {1, 18, 3}};
            for (int[] w : ways) {
                due("of seats " + w[0] + " and " + w[1], (99 - twoInSeats(w[0], w[1], 99).of(0, 8)) / 2, w[2]);
            }
        });
        holds(3, "HEARS of one from another: SOUND of that one, less twice the WAY (0 at least).", () -> {
            int[][] heard = {{0, 0, 0}, {0, 1, 1}, {0, 99, 99}, {1, 1, 0}, {1, 2, 0}, {1, 3, 1}, {10, 19, 0}, {10, 20, 0},
                {10, 21, 1}, {10, 99, 79}};
            for (int[] h : heard) {
                due(h[1] + " loud, " + h[0] + " seats off", twoInSeats(0, h[0], h[1]).of(0, 8), h[2]);
            }
            LidsAndCombs x = twoInSeats(0, 10, 99);
            x.hush(1, true);
            due("a still one", x.of(0, 8), 0);
            x.hush(0, true);
            x.hush(1, false);
            due("a still one hears", x.of(0, 8), 79);
        });
        holds(3, "DIN of one: what it HEARS from all others, together.", () -> {
            due("of one alone", loud(99).of(0, 8), 0);
            LidsAndCombs x = loud(99, 98, 97, 96, 95, 94);
            due("of the first of six", x.of(0, 8), 98 + 97 + 96 + 95 + 94);
            due("of the last of six", x.of(5, 8), 99 + 98 + 97 + 96 + 95);
            x = new LidsAndCombs();
            x.player(PLAYER, 0, 0, 0, 1);
            x.player(PLAYER, 0, 10, 19, 1);
            x.player(PLAYER, 0, 1, 5, 1);
            due("one who is not heard takes nothing off", x.of(0, 8), 3);
        });
    }

    private static void followed() {
        holds(3, "FOLLOWS: the other from whom it HEARS most (of several the first), if that is above 0; else nobody.", () -> {
            due("one alone", loud(99).of(0, 7), -5);
            LidsAndCombs x = loud(1, 1, 1);
            due("0 of three alike", x.of(0, 7), 1);
            due("1 of three alike", x.of(1, 7), 0);
            due("2 of three alike", x.of(2, 7), 0);
            x.set(2, 1, 2);
            due("2 is louder", x.of(0, 7), 2);
            x = loud(99, 0, 0);
            due("it is not its own", x.of(0, 7), -5);
            due("the others' is", x.of(2, 7), 0);
            due("heard at 0", twoInSeats(0, 10, 20).of(0, 7), -5);
            due("heard at 1", twoInSeats(0, 10, 21).of(0, 7), 1);
            x = new LidsAndCombs();
            x.player(PLAYER, 0, 0, 0, 1);
            x.player(PLAYER, 0, 10, 50, 1);
            x.player(PLAYER, 0, 1, 32, 1);
            due("30 from two alike, of whom one is louder: the first", x.of(0, 7), 1);
            x.set(2, 1, 33);
            due("31 from the nearer one", x.of(0, 7), 2);
            x.hush(2, true);
            due("from a still one nothing", x.of(0, 7), 1);
            due("a still one follows", x.of(2, 7), 1);
            x = loud(0, 0, 0, 0, 0, 1);
            due("the last of six is followed", x.of(0, 7), 5);
        });
    }

    /** One of a kind, of v and pace 60, in seat 0, who hears a deaf one of pace 100, if that is loud. */
    private static LidsAndCombs goer(int kind, int v, int loudOfOther) {
        LidsAndCombs x = new LidsAndCombs();
        x.player(kind, v, 0, 0, 60);
        x.player(DEAF, 0, 0, loudOfOther, 100);
        Check.kitchen(x, "step 0;softer 9 p=0");
        return x;
    }

    private static void goals() {
        holds(3, "GOAL of a PLAYER (a PACE): PLAYER: PACE of whom it FOLLOWS (its own, if nobody).", () -> {
            due("who follows", goer(PLAYER, 9, 1).of(0, 9), 100);
            due("who follows nobody", goer(PLAYER, 9, 0).of(0, 9), 60);
            due("one alone", loud(9).of(0, 9), 100);
            LidsAndCombs x = goer(PLAYER, 0, 50);
            x.set(1, 2, 1);
            due("the least", x.of(0, 9), 1);
            x.set(1, 2, 200);
            due("the most", x.of(0, 9), 200);
            x.hush(0, true);
            due("of a still one", x.of(0, 9), 200);
        });
        holds(3, "DEAF, BUCKET: its own.", () -> {
            due("deaf, though it follows", goer(DEAF, 9, 50).of(0, 9), 60);
            due("it does follow", goer(DEAF, 9, 50).of(0, 7), 1);
            due("a bucket", goer(BUCKET, 9, 50).of(0, 9), 60);
            due("a bucket that follows nobody", goer(BUCKET, 9, 0).of(0, 9), 60);
        });
        holds(3, "EAGER: as PLAYER, and v more.", () -> {
            due("v 0", goer(EAGER, 0, 50).of(0, 9), 100);
            due("v 9", goer(EAGER, 9, 50).of(0, 9), 109);
            due("v 9, who follows nobody", goer(EAGER, 9, 0).of(0, 9), 69);
            LidsAndCombs x = goer(EAGER, 9, 50);
            x.set(1, 2, 191);
            due("200", x.of(0, 9), 200);
        });
        holds(3, "SHINING: as EAGER.", () -> {
            due("v 0", goer(SHINING, 0, 50).of(0, 9), 100);
            due("v 9", goer(SHINING, 9, 50).of(0, 9), 109);
            due("v 9, who follows nobody", goer(SHINING, 9, 0).of(0, 9), 69);
        });
    }

    private static void littleGoals() {
        holds(3, "LITTLE: as PLAYER, but its own at BEATS that are multiples of v and 2.", () -> {
            for (int v = 0; v <= 9; v++) {
                LidsAndCombs x = goer(LITTLE, v, 50);
                for (int beat = 0; beat <= 24; beat++) {
                    due("v " + v + " at beat " + beat, x.of(0, 9), beat % (v + 2) == 0 ? 60 : 100);
                    x.pass(1);
                }
            }
            LidsAndCombs x = goer(LITTLE, 1, 0);
            x.pass(1);
            due("who follows nobody", x.of(0, 9), 60);
        });
    }

    private static void toldGoals() {
        holds(3, "TOLD: as LITTLE, and its ROW (four numbers 0 .. 9; 0 at first) at BEAT modulo 4 more.", () -> {
            LidsAndCombs x = goer(TOLD, 1, 50);
            int[] first = {60, 100, 100, 60, 100};
            for (int beat = 0; beat < first.length; beat++) {
                due("0 at first, beat " + beat, x.of(0, 9), first[beat]);
                x.pass(1);
            }
            x = goer(TOLD, 1, 50);
            int[] row = {9, 1, 0, 5};
            for (int part = 0; part < 4; part++) {
                x.row(0, part, row[part]);
            }
            int[] goals = {69, 101, 100, 65, 109, 101, 60, 105, 109, 61, 100, 105, 69};
            for (int beat = 0; beat < goals.length; beat++) {
                due("by its row, beat " + beat, x.of(0, 9), goals[beat]);
                x.pass(1);
            }
            x = nobody();
            x.image();
            x.player(TOLD, 0, 0, 0, 60);
            x.row(0, 0, 9);
            x.undo();
            x.player(TOLD, 0, 0, 0, 60);
            due("0 at first, where a told one was", x.of(0, 9), 60);
            x = goer(TOLD, 1, 0);
            x.row(0, 1, 9);
            x.pass(1);
            due("who follows nobody", x.of(0, 9), 69);
        });
    }

    private static void more() {
        holds(3, "MORE of a PLAYER: the n of all louder whose E holds, less those of all softer, together (may be below 0).", () -> {
            LidsAndCombs x = loud(50, 50);
            due("without a kitchen", x.of(0, 10), 0);
            due("none whose E holds", with(x, "louder 9 p=1;softer 9 p=2;step 7").of(0, 10), 0);
            due("below 0", with(x, "softer 99 p=0").of(0, 10), -99);
            due("of the other", x.of(1, 10), 0);
            due("all together", with(x, "louder 5 p=0;softer 7 p<2;louder 1 p=1;softer 0 p=0").of(0, 10), -2);
            due("of the other", x.of(1, 10), -6);
            String most = "louder 99 p<9";
            due("ten of 99", with(loud(1), (most + ";").repeat(6) + "step 1;pay 5").of(0, 10), 6 * 99);
            due("a still one's", hushed(x).of(0, 10), -2);
        });
    }

    private static LidsAndCombs hushed(LidsAndCombs x) {
        x.hush(0, true);
        return x;
    }
}
