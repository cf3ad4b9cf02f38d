/** Promises 10 to 14: beats, how all is behind them, when she wakes, when it settles, who leads. */
public final class BeatsTest {
    private static final Check CHECK = new Check("BeatsTest");

    public static void main(String[] args) {
        oneBeat();
        loud();
        paces();
        earned();
        lastBeat();
        on();
        onByKinds();
        wakes();
        settles();
        leader();
        CHECK.end();
    }

    private static void due(String call, long got, long want) {
        CHECK.due(call, got, want);
    }

    private static void oneBeat() {
        LidsAndCombs x = PlayersTest.six();
        due("pass(-1)", x.pass(-1), -2);
        due("pass(61)", x.pass(61), -2);
        due("pass(0)", x.pass(0), 195);
        due("BEAT behind none", x.told(0), 0);
        due("pass(1)", x.pass(1), 53 + 43 + 33 + 23 + 30 + 28);
        due("BEAT behind one", x.told(0), 1);
        int[] pace = {98, 80, 92, 60, 150, 118};
        int[] louds = {53, 43, 33, 23, 13, 28};
        for (int p = 0; p < 6; p++) {
            due("pace of " + p, x.of(p, 4), pace[p]);
            due("loud of " + p, x.of(p, 3), louds[p]);
        }
        due("awake, EARNED is held to 0", x.told(1), 0);
        due("pass(60)", x.pass(60), x.told(2));
        due("BEAT behind 61", x.told(0), 61);
    }

    private static void loud() {
        LidsAndCombs x = new LidsAndCombs();
        x.player(0, 0, 0, 50, 100);
        x.player(0, 0, 0, 50, 100);
        x.pass(1);
        due("DIN as much as SOUND", x.of(0, 3), 50);
        x.set(1, 1, 51);
        x.pass(1);
        due("DIN more than SOUND", x.of(0, 3), 53);
        due("DIN less than SOUND", x.of(1, 3), 51);
        x.set(1, 1, 98);
        x.set(0, 1, 99);
        x.pass(1);
        due("held to 99", x.of(1, 3), 99);
        Check.kitchen(x, "softer 40 p=0;louder 2 p=1");
        x.set(0, 1, 39);
        x.set(1, 1, 0);
        x.pass(1);
        due("held to 0", x.of(0, 3), 0);
        due("MORE and 3", x.of(1, 3), 5);
        x.hush(1, true);
        x.pass(1);
        due("a still one is as loud as it was", x.of(1, 3), 5);
        x.hush(1, false);
        due("and sounds so", x.of(1, 6), 5);
        x = new LidsAndCombs();
        x.player(0, 0, 0, 19, 100);
        x.player(0, 0, 0, 19, 129);
        Check.kitchen(x, "louder 10 l=2&c=10&b=1;louder 1 l=1;step 10");
        x.pass(1);
        due("MORE by LOUD ahead of the beat", x.of(0, 3), 20);
        due("paces both by how all was: the one", x.of(0, 4), 110);
        due("paces both by how all was: the other", x.of(1, 4), 119);
        x.set(0, 2, 100);
        x.pass(1);
        due("MORE by PACE and BEAT ahead of the beat", x.of(0, 3), 30);
    }

    private static void paces() {
        LidsAndCombs x = new LidsAndCombs();
        x.player(1, 0, 0, 90, 103);
        x.player(0, 0, 0, 0, 100);
        x.player(0, 0, 0, 0, 106);
        x.hush(2, true);
        x.pass(1);
        due("nearer by 2", x.of(1, 4), 102);
        due("nearer from above, still or not", x.of(2, 4), 104);
        x.pass(1);
        due("no further than GOAL", x.of(1, 4), 103);
        due("no further than GOAL from above", x.of(2, 4), 103);
        Check.kitchen(x, "step 0");
        x.set(1, 2, 1);
        x.pass(5);
        due("step 0", x.of(1, 4), 1);
        Check.kitchen(x, "step 99");
        x.set(0, 2, 200);
        x.pass(1);
        due("step 99", x.of(1, 4), 100);
        x.player(2, 9, 0, 0, 199);
        x.pass(1);
        due("an eager one is held to 200", x.of(3, 4), 200);
        x.pass(3);
        due("and stays there", x.of(3, 4), 200);
    }

    private static void earned() {
        LidsAndCombs x = new LidsAndCombs();
        x.player(0, 0, 0, 59, 100);
        x.pass(1);
        due("59 by 5, cut", x.told(1), 11);
        x.set(0, 1, 60);
        x.pass(1);
        due("10 less", x.told(1), 1);
        x.pass(1);
        due("held to 0", x.told(1), 0);
        Check.kitchen(x, "wake 99;pay 0");
        x.set(0, 1, 98);
        x.pass(60);
        due("98 each", x.told(1), 98 * 60);
        for (int n = 0; n < 16; n++) {
            x.pass(60);
        }
        due("98 each, long", x.told(1), 98 * 60 * 17);
        due("held to 99999 ahead", x.on(1, 1), 99999);
        x.pass(2);
        due("held to 99999", x.told(1), 99999);
        Check.kitchen(x, "wake 0");
        x.set(0, 1, 0);
        x.pass(1);
        due("wake 0: always awake", x.told(1), 99989);
    }

    private static void lastBeat() {
        LidsAndCombs x = new LidsAndCombs();
        x.player(0, 0, 0, 1, 100);
        for (int n = 0; n < 166; n++) {
            x.pass(60);
        }
        due("BEAT 9960", x.told(0), 9960);
        due("pass(40)", x.pass(40), -3);
        due("a bad number first", x.pass(61), -2);
        due("pass(39)", x.pass(39), 1);
        due("BEAT 9999", x.told(0), 9999);
        due("pass(1)", x.pass(1), -3);
        due("pass(0)", x.pass(0), 1);
        Check.kitchen(x, "louder 1 b=0");
        due("asked beyond 9999", x.on(2, 20), 2);
        due("asked far beyond 9999", x.on(60, 20), 7);
        due("wakes beyond 9999", x.wakes(), -5);
        due("BEAT is still 9999", x.told(0), 9999);
    }

    private static void on() {
        LidsAndCombs x = PlayersTest.six();
        int[] pace = {98, 80, 92, 60, 150, 118};
        int[] louds = {53, 43, 33, 23, 13, 28};
        for (int p = 0; p < 6; p++) {
            due("on(1, 1" + p + ")", x.on(1, 10 + p), pace[p]);
            due("on(1, 2" + p + ")", x.on(1, 20 + p), louds[p]);
            due("on(0, 1" + p + ")", x.on(0, 10 + p), x.of(p, 4));
        }
        due("on(0, 0)", x.on(0, 0), 195);
        due("on(1, 0)", x.on(1, 0), 53 + 43 + 33 + 23 + 30 + 28);
        due("on(60, 1)", x.on(60, 1), 0);
        int[] none = {-1, 2, 9, 16, 19, 26, Integer.MIN_VALUE, Integer.MAX_VALUE};
        for (int what : none) {
            due("on(99, " + what + ")", x.on(99, what), -1);
        }
        due("on(61, 0)", x.on(61, 0), -2);
        due("on(-1, 25)", x.on(-1, 25), -2);
        due("BEAT", x.told(0), 0);
        long noise = x.on(60, 0);
        due("pass(60)", x.pass(60), noise);
        x = new LidsAndCombs();
        due("nobody's pace", x.on(0, 10), -1);
        x.player(0, 0, 0, 50, 1);
        due("EARNED behind 3", x.on(3, 1), 30);
        due("one's loud", x.on(3, 20), 50);
        due("nobody's loud", x.on(3, 21), -1);
    }

    private static void onByKinds() {
        LidsAndCombs x = new LidsAndCombs();
        x.player(1, 0, 0, 90, 100);
        x.player(2, 5, 0, 0, 50);
        x.player(6, 1, 0, 0, 60);
        x.player(5, 4, 0, 0, 70);
        x.player(4, 0, 0, 0, 80);
        x.player(3, 3, 0, 0, 90);
        for (int part = 0; part < 4; part++) {
            x.row(2, part, 5 + part);
        }
        Check.kitchen(x, "step 99;softer 20 p>0");
        // TOLD takes its own at beats 0, 3, 6, LITTLE at 0 and 5; the others' way is one beat.
        int[][] want = {
            {100, 50, 60, 70, 80, 90}, {100, 105, 65, 104, 80, 90}, {100, 105, 106, 104, 80, 100},
            {100, 105, 107, 104, 80, 100}, {100, 105, 115, 104, 80, 100}, {100, 105, 105, 104, 80, 100},
        };
        for (int n = 0; n < want.length; n++) {
            for (int p = 0; p < 6; p++) {
                due("on(" + n + ", 1" + p + ") of six kinds", x.on(n, 10 + p), want[n][p]);
            }
        }
    }

    private static void wakes() {
        LidsAndCombs x = new LidsAndCombs();
        x.player(0, 0, 0, 60, 100);
        due("awake now", x.wakes(), 0);
        x.set(0, 1, 59);
        due("never", x.wakes(), -5);
        Check.kitchen(x, "louder 1 p=0");
        due("behind one", x.wakes(), 1);
        x.set(0, 1, 0);
        due("behind sixty", x.wakes(), 60);
        Check.kitchen(x, "louder 1 p=0;wake 61");
        due("behind sixty-one", x.wakes(), -5);
        Check.kitchen(x, "wake 0");
        due("wake 0", x.wakes(), 0);
    }

    private static void settles() {
        LidsAndCombs x = new LidsAndCombs();
        due("nobody", x.settles(), 0);
        x.player(1, 0, 0, 99, 100);
        due("one", x.settles(), 0);
        x.player(0, 0, 0, 0, 100);
        due("of one pace", x.settles(), 0);
        Check.kitchen(x, "step 1;softer 3 p=1");
        x.set(1, 2, 40);
        due("behind sixty", x.settles(), 60);
        x.set(1, 2, 39);
        due("behind sixty-one", x.settles(), -5);
        x.set(1, 2, 101);
        due("behind one", x.settles(), 1);
        x.player(1, 0, 0, 0, 50);
        due("not with another", x.settles(), -5);
        x.hush(2, true);
        due("still ones are not looked at", x.settles(), 1);
        x.hush(0, true);
        due("one who is not", x.settles(), 0);
        x.hush(1, true);
        due("nobody who is not", x.settles(), 0);
    }

    private static void leader() {
        LidsAndCombs x = PlayersTest.six();
        due("leader(-1)", x.leader(-1), -2);
        due("leader(61)", x.leader(61), -2);
        due("five follow 0", x.leader(0), 0);
        x.hush(0, true);
        due("0 still: 5 and others follow 1", x.leader(0), 1);
        x = new LidsAndCombs();
        due("nobody", x.leader(0), -5);
        x.player(0, 0, 0, 50, 100);
        due("one alone", x.leader(0), -5);
        x.player(0, 0, 5, 50, 100);
        due("each follows the other: the first", x.leader(0), 0);
        x.hush(0, true);
        due("a still one's follower is not counted", x.leader(0), -5);
        x.hush(0, false);
        x.hush(1, true);
        due("only 1 follows, and it is still", x.leader(0), -5);
        x.hush(1, false);
        x.set(0, 1, 10);
        due("10 loud 5 seats off is not followed", x.leader(0), 1);
        x.set(1, 1, 9);
        due("they follow nobody", x.leader(0), -5);
        Check.kitchen(x, "louder 1 p=1");
        due("behind one beat", x.leader(1), -5);
        due("behind two beats", x.leader(2), 1);
        due("behind sixty beats", x.leader(60), x.leader(59));
    }
}
