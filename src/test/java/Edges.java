import java.util.ArrayList;
import java.util.Arrays;
import java.util.List;

/** Tests of one sentence each: the promise, the sentence as DOC.md has it, and what is due by it. */
class Edges {
    /** One sentence, for one promise; go() asks what is due by it. */
    static final class Edge {
        final int promise;
        final String sentence;
        private final Runnable test;

        private Edge(int promise, String sentence, Runnable test) {
            this.promise = promise;
            this.sentence = sentence;
            this.test = test;
        }

        void go() {
            test.run();
        }

        @Override
        public String toString() {
            return "promise " + promise + ", \"" + sentence + "\"";
        }
    }

    private static final List<Edge> ALL = new ArrayList<>();
    private static Check check;
    private static String going;

    Edges() {
    }

    /** Every sentence's test, by promises. */
    static List<Edge> all() {
        if (ALL.isEmpty()) {
            EdgesOfPlayers.tell();
            EdgesOfGoals.tell();
            EdgesOfKitchens.tell();
            EdgesOfBeats.tell();
            EdgesOfBest.tell();
            EdgesOfSeen.tell();
            EdgesOfAfternoons.tell();
            EdgesOfImage.tell();
            EdgesOfActs.tell();
            EdgesOfTapes.tell();
            EdgesOfAnswers.tell();
        }
        return ALL;
    }

    static void holds(int promise, String sentence, Runnable test) {
        ALL.add(new Edge(promise, sentence, test));
    }

    /** Runs one sentence's test: how many answers it looked at. */
    static int go(Edge edge, Check into) {
        check = into;
        going = edge.toString();
        int before = into.asked();
        edge.go();
        return into.asked() - before;
    }

    static void due(String call, long got, long want) {
        check.due(going + ": " + call, got, want);
    }

    // ---- what the tests share

    static final int FAR_BELOW = Integer.MIN_VALUE, FAR_ABOVE = Integer.MAX_VALUE;
    static final long NO = Long.MIN_VALUE;
    static final int PLAYER = 0, DEAF = 1, EAGER = 2, LITTLE = 3, BUCKET = 4, SHINING = 5, TOLD = 6;

    static LidsAndCombs nobody() {
        return new LidsAndCombs();
    }

    /** Players of kind 0, all in seat 0 and of pace 100, as loud as told. */
    static LidsAndCombs loud(int... louds) {
        LidsAndCombs x = new LidsAndCombs();
        for (int loud : louds) {
            x.player(PLAYER, 0, 0, loud, 100);
        }
        return x;
    }

    /** Deaf players, all in seat 0 and not loud, of the paces told. */
    static LidsAndCombs paces(int... paces) {
        LidsAndCombs x = new LidsAndCombs();
        for (int pace : paces) {
            x.player(DEAF, 0, 0, 0, pace);
        }
        return x;
    }

    /** 1 follows 0, who is deaf, 40 loud and of pace 100; 1 is of the pace told, and stays silent. */
    static LidsAndCombs pair(int pace) {
        LidsAndCombs x = new LidsAndCombs();
        x.player(DEAF, 0, 0, 40, 100);
        x.player(PLAYER, 0, 0, 0, pace);
        Check.kitchen(x, "softer 3 p=1");
        return x;
    }

    static LidsAndCombs with(LidsAndCombs x, String kitchen) {
        Check.kitchen(x, kitchen);
        return x;
    }

    /** All that is asked of how all is: two of these differ if a call has changed something. */
    static long[] state(LidsAndCombs x) {
        long[] row = new long[150];
        int n = 0;
        for (int what = 0; what <= 6; what++) {
            row[n++] = x.told(what);
            row[n++] = x.count(what);
        }
        for (int p = 0; p < x.count(0); p++) {
            for (int what = 0; what <= 10; what++) {
                row[n++] = x.of(p, what);
            }
            // Which ROW a told one has shows in how it goes on.
            for (int beats = 1; beats <= 4; beats++) {
                row[n++] = x.on(beats, 10 + p);
            }
        }
        for (int tape = 0; tape < 6; tape++) {
            for (int i = 0; i < 3; i++) {
                row[n++] = x.read(tape, i);
            }
        }
        for (int i = 0; i < 4; i++) {
            row[n++] = x.trace(i);
        }
        row[n++] = x.gone(0);
        row[n++] = x.gone(1);
        row[n++] = x.looked();
        row[n++] = x.who();
        return row;
    }

    /** One in whom there is something of all that can be told, so that a change of any of it shows. */
    static LidsAndCombs full() {
        LidsAndCombs x = new LidsAndCombs();
        x.player(DEAF, 1, 0, 40, 100);
        x.player(TOLD, 2, 3, 20, 80);
        x.player(EAGER, 3, 19, 10, 60);
        x.row(1, 0, 2);
        x.row(1, 1, 4);
        x.row(1, 2, 7);
        x.row(1, 3, 1);
        Check.kitchen(x, "louder 2 p=1&l<5;wake 99;step 99");
        x.hush(2, true);
        x.pass(1);
        x.see(1, 107, 2);
        x.afternoon(0, 0);
        x.afternoon(2, 2);
        x.book(1, x.of(1, 4));
        x.book(2, 7);
        x.tape(0, 1, 3);
        x.item(0, 1, 5);
        x.tape(1, 1, 0);
        x.tape(2, 2, 2);
        x.image();
        x.act(1, 0, 5);
        Check.feed(x, "step ");
        return x;
    }

    /** That a call, made on one that is full, changes nothing. */
    static void same(String call, LidsAndCombs x, Runnable test) {
        long[] before = state(x);
        test.run();
        due(call + ": is all as it was?", Arrays.equals(state(x), before) ? 1 : 0, 1);
    }
}
