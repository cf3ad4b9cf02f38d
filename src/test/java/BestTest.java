/** Promises 15 to 18: who should change seats, who should be still, how quick one must be, when to stop. */
public final class BestTest {
    private static final Check CHECK = new Check("BestTest");

    public static void main(String[] args) {
        seats();
        seatsOfSeveral();
        seatsOfTheSecond();
        seatsOneLess();
        whoHush();
        whoHushOfSeveral();
        whoHushBehindSixty();
        quick();
        best();
        CHECK.end();
    }

    private static void due(String call, long got, long want) {
        CHECK.due(call, got, want);
    }

    private static void seats() {
        LidsAndCombs x = new LidsAndCombs();
        due("nobody", x.seats(), -5);
        // 1 and 2 sit together, each nearer to the other's pace by turns; 0 is deaf, and too far to be followed.
        x.player(1, 0, 10, 30, 100);
        x.player(0, 0, 0, 20, 90);
        x.player(0, 0, 1, 20, 80);
        Check.kitchen(x, "step 99;softer 3 p>0");
        due("two who follow each other", x.settles(), -5);
        due("one of them leaves", x.seats(), settlesLeast(x));
        due("it is 0 and 1", x.seats(), 1);
        due("asking changes no seats", x.of(0, 2) * 100 + x.of(1, 2) * 10 + x.of(2, 2), 1001);
        x.set(0, 0, 0);
        x.set(1, 0, 10);
        due("behind that change", x.settles(), 1);
        due("none is better than 1 but 0", x.seats(), -5);
        x.set(1, 2, 100);
        x.set(2, 2, 100);
        due("settled now", x.seats(), -5);
    }

    /** SEATS by its words, by changing seats. */
    private static int settlesLeast(LidsAndCombs x) {
        int least = x.settles() == -5 ? 99 : x.settles();
        int two = -5;
        for (int i = 0; i < x.count(0); i++) {
            for (int j = i + 1; j < x.count(0); j++) {
                change(x, i, j);
                int settles = x.settles();
                if (settles != -5 && settles < least) {
                    least = settles;
                    two = 10 * i + j;
                }
                change(x, i, j);
            }
        }
        return two;
    }

    private static void change(LidsAndCombs x, int i, int j) {
        x.set(i, 0, x.set(j, 0, x.of(i, 2)));
    }

    private static void seatsOfSeveral() {
        // 2 and 3 sit too far from 0 and 1, who are deaf and of one pace.
        LidsAndCombs x = new LidsAndCombs();
        x.player(1, 0, 10, 90, 100);
        x.player(1, 0, 10, 90, 100);
        x.player(0, 0, 0, 20, 60);
        x.player(0, 0, 0, 20, 70);
        Check.kitchen(x, "step 99;softer 3 p>1");
        due("0 and 1 are heard", x.settles(), 1);
        x.set(0, 1, 20);
        x.set(1, 1, 20);
        due("0 and 1 are too far to be heard", x.settles(), -5);
        due("02, 03, 12 and 13 are alike", x.seats(), 2);
        due("by the words", x.seats(), settlesLeast(x));
    }

    /** 1 is deaf, and heard by 0 from 8 seats off or fewer; 2 is still. */
    private static LidsAndCombs far(int seatOf0, int seatOf2, String kitchen) {
        LidsAndCombs x = new LidsAndCombs();
        x.player(0, 0, seatOf0, 0, 40);
        x.player(1, 0, 10, 18, 100);
        x.player(0, 0, seatOf2, 0, 7);
        x.hush(2, true);
        Check.kitchen(x, kitchen);
        return x;
    }

    private static void seatsOfTheSecond() {
        LidsAndCombs x = far(0, 1, "step 1;softer 9 p=0");
        due("0 hears nobody", x.settles(), -5);
        due("1 comes to where 2 is still: behind sixty beats", x.seats(), 12);
        x.set(0, 2, 39);
        due("behind sixty-one: no better", x.seats(), -5);
        x = new LidsAndCombs();
        x.player(0, 0, 1, 0, 7);
        x.player(0, 0, 0, 0, 70);
        x.player(1, 0, 10, 18, 100);
        x.hush(0, true);
        due("the greater number's seat counts too", x.seats(), 2);
    }

    private static void seatsOneLess() {
        LidsAndCombs x = far(1, 2, "step 1;louder 1 p=1;softer 9 p=0");
        x.set(0, 2, 90);
        due("0 hears 1 behind one beat", x.settles(), 11);
        due("where 2 sits at once", x.seats(), 2);
    }

    private static void whoHushBehindSixty() {
        LidsAndCombs x = new LidsAndCombs();
        x.player(0, 0, 0, 0, 100);
        x.player(0, 0, 10, 0, 100);
        Check.kitchen(x, "louder 1 p=1;softer 9 p=0");
        due("1 alone", x.wakes(), 60);
        due("one looks far ahead", x.on(60, 0), 60);
        due("never without 1", x.whoHush(), 1);
        x = new LidsAndCombs();
        x.player(0, 0, 0, 0, 100);
        Check.kitchen(x, "louder 1 p=0");
        due("never without 0", x.whoHush(), 0);
    }

    private static void whoHush() {
        LidsAndCombs x = new LidsAndCombs();
        due("nobody", x.whoHush(), -5);
        x.player(0, 0, 0, 10, 100);
        x.player(0, 0, 10, 20, 100);
        Check.kitchen(x, "louder 2 p=0;louder 1 p=1;wake 50");
        due("30 and 3 a beat", x.wakes(), 7);
        due("1 alone is at 50 behind 30 beats, 0 alone behind 20", x.whoHush(), 0);
        x.hush(0, true);
        due("1 alone", x.wakes(), 30);
        due("then nobody wakes her", x.whoHush(), 1);
        x.hush(1, true);
        due("nobody is left", x.whoHush(), -5);
        x.hush(0, false);
        x.hush(1, false);
        x.set(0, 1, 50);
        x.set(1, 1, 50);
        due("she is awake anyway", x.whoHush(), -5);
        x.set(1, 1, 0);
        Check.kitchen(x, "louder 1 p=1;softer 3 p=0;wake 50");
        due("50 and 0: awake at once", x.wakes(), 0);
        due("without 0 behind 50, without 1 at once", x.whoHush(), 0);
        Check.kitchen(x, "wake 99");
        due("never", x.wakes(), -5);
        due("more than any is not more than that", x.whoHush(), -5);
    }

    private static void whoHushOfSeveral() {
        LidsAndCombs x = new LidsAndCombs();
        x.player(0, 0, 0, 0, 100);
        x.player(0, 0, 10, 40, 100);
        x.player(0, 0, 5, 40, 100);
        Check.kitchen(x, "softer 9 p=0;softer 3 p>0");
        due("80 now", x.wakes(), 0);
        due("of 1 and 2 the first", x.whoHush(), 1);
        x.hush(1, true);
        due("40, and softer", x.wakes(), -5);
        due("nothing greater", x.whoHush(), -5);
    }

    private static void quick() {
        LidsAndCombs x = new LidsAndCombs();
        x.player(1, 0, 0, 90, 100);
        x.player(0, 0, 0, 0, 20);
        Check.kitchen(x, "softer 3 p=1");
        due("quick(-1)", x.quick(-1), -1);
        due("quick(2)", x.quick(2), -1);
        due("20 wants 40 beats", x.settles(), 40);
        due("40 wants 30", x.quick(1), 40);
        x.set(1, 2, 150);
        due("whatever it is now", x.quick(1), 40);
        due("its pace is as it was", x.of(1, 4), 150);
        Check.kitchen(x, "softer 3 p=1;step 1");
        x.set(0, 2, 101);
        due("70 wants 31, 80 wants 21", x.quick(1), 80);
        x.set(0, 2, 100);
        due("70 wants 30", x.quick(1), 70);
        Check.kitchen(x, "softer 3 p=1");
        due("whom one follows: 90 for 150", x.quick(0), 90);
        x.set(0, 2, 20);
        due("the least is 10", x.quick(1), 10);
        x.player(1, 0, 0, 0, 200);
        x.hush(1, true);
        due("two deaf ones: 200", x.quick(0), 200);
        x.set(2, 2, 195);
        due("no multiple of ten", x.quick(0), -5);
        x.hush(2, true);
        due("alone any", x.quick(0), 10);
        due("of a still one any", x.quick(2), 10);
        x.hush(0, true);
        due("nobody is not still", x.quick(1), 10);
    }

    private static void best() {
        LidsAndCombs x = new LidsAndCombs();
        x.player(0, 0, 0, 0, 100);
        Check.kitchen(x, "louder 10 p=0;wake 35;pay 1");
        // NOISE 0 10 20 30 40 ..: EARNED 0 0 10 30 60 50 40 ..
        int[] want = {0, 0, 2, 3, 4, 4, 4};
        for (int n = 0; n < want.length; n++) {
            due("best(" + n + ")", x.best(n), want[n]);
        }
        due("best(60)", x.best(60), 4);
        due("best(61)", x.best(61), -2);
        due("best(-1)", x.best(-1), -2);
        x.pass(3);
        due("behind three beats", x.best(60), 1);
        x.pass(1);
        due("behind four beats", x.best(60), 0);
        due("EARNED", x.told(1), 60);
        x = new LidsAndCombs();
        x.player(0, 0, 0, 4, 100);
        due("nothing to earn: the fewest", x.best(60), 0);
        x.set(0, 1, 5);
        due("more with each", x.best(60), 60);
    }
}
