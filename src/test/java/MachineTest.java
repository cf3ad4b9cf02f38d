import java.lang.management.ManagementFactory;
import java.util.Random;

/** For any arguments in any state: no call throws, asking changes nothing, and no call takes room. */
public final class MachineTest {
    private static final Check CHECK = new Check("MachineTest");
    private static final int[] EDGES = {Integer.MIN_VALUE, Integer.MIN_VALUE + 10, -1001, -11, -5, -2, -1, 0, 1, 2, 3, 4, 5,
        6, 7, 8, 9, 10, 11, 15, 16, 19, 20, 25, 26, 30, 31, 59, 60, 61, 99, 100, 101, 127, 128, 200, 201, 9999,
        Integer.MAX_VALUE - 5, Integer.MAX_VALUE};
    private static final int FIRST_ASKING = 15, CALLS = 37;

    public static void main(String[] args) {
        anything();
        asking();
        room();
        CHECK.end();
    }

    private static void anything() {
        Random random = new Random(5);
        for (int run = 0; run < 300; run++) {
            LidsAndCombs x = run % 2 == 0 ? new LidsAndCombs() : full(random);
            for (int n = 0; n < 380; n++) {
                call(x, random.nextInt(CALLS), random, EDGES);
            }
        }
        CHECK.due("no call has thrown", true);
    }

    private static void asking() {
        Random random = new Random(7);
        int[] small = {-1, 0, 1, 2, 3, 4, 5, 6, 9, 10, 11, 20, 60, 61};
        for (int run = 0; run < 40; run++) {
            for (int call = FIRST_ASKING; call < CALLS; call++) {
                LidsAndCombs x = full(random);
                long before = all(x);
                for (int n = 0; n < 3; n++) {
                    call(x, call, random, small);
                }
                CHECK.due("run " + run + ": all is as it was behind call " + call, all(x), before);
            }
        }
    }

    private static void room() {
        com.sun.management.ThreadMXBean threads = (com.sun.management.ThreadMXBean) ManagementFactory.getThreadMXBean();
        Random random = new Random(9);
        int[] ints = {0, 1, 2, 3, 5, 8, 30};
        LidsAndCombs[] objects = new LidsAndCombs[10];
        for (int n = 0; n < objects.length; n++) {
            objects[n] = full(random);
        }
        // What the first calls take is the machine's own: classes and constants.
        long before = 0;
        for (int n = 0; n < objects.length; n++) {
            before = n == 1 ? threads.getCurrentThreadAllocatedBytes() : before;
            for (int call = 0; call < 10 * CALLS; call++) {
                call(objects[n], call % CALLS, random, ints);
            }
        }
        long bytes = threads.getCurrentThreadAllocatedBytes() - before;
        CHECK.due("room for 3330 calls: " + bytes + " bytes", bytes < 20000);
    }

    private static LidsAndCombs full(Random random) {
        LidsAndCombs x = new LidsAndCombs();
        for (int p = 0; p < 6; p++) {
            x.player(random.nextInt(7), random.nextInt(10), random.nextInt(20), random.nextInt(60), 1 + random.nextInt(200));
            x.row(p, random.nextInt(4), random.nextInt(10));
        }
        Check.kitchen(x, "louder 9 p=1&(b>4|!l<3);softer 2 k>2;step " + random.nextInt(20) + ";wake 99;pay " + random.nextInt(9));
        Check.feed(x, "step");
        x.pass(random.nextInt(9));
        x.hush(random.nextInt(6), random.nextBoolean());
        x.see(random.nextInt(6), 1 + random.nextInt(200), random.nextInt(3));
        x.afternoon(0, 0);
        x.afternoon(1, random.nextInt(6));
        x.afternoon(0, 0);
        x.book(random.nextInt(6), 1 + random.nextInt(200));
        for (int tape = 0; tape < 5; tape++) {
            x.tape(tape, tape, 9);
            x.item(tape, 3, random.nextLong());
        }
        return x;
    }

    /** Numbers that differ if anything that can be asked one by one does; no trace, as an act makes a new one. */
    private static long all(LidsAndCombs x) {
        long sum = 0;
        for (int what = 0; what < 7; what++) {
            sum = sum * 31 + x.told(what);
            sum = sum * 31 + (what < 6 ? x.count(what) : 0);
        }
        for (int p = 0; p < 6; p++) {
            for (int what = 0; what < 11; what++) {
                sum = sum * 31 + x.of(p, what);
            }
            for (int i = 0; i < 9; i++) {
                sum = sum * 31 + x.read(p, i);
            }
            sum = sum * 31 + x.on(40, 10 + p) + 7 * x.on(41, 20 + p) + 13 * x.on(42, 1);
        }
        return sum * 31 + x.gone(0) * 3 + x.gone(1) * 5 + x.looked() * 7 + x.who() * 11 + x.was(0, 0) * 13;
    }

    /** One of all calls; from FIRST_ASKING on, those that change nothing that all() looks at. */
    private static long call(LidsAndCombs x, int which, Random random, int[] ints) {
        int a = ints[random.nextInt(ints.length)];
        int b = ints[random.nextInt(ints.length)];
        int c = ints[random.nextInt(ints.length)];
        int d = ints[random.nextInt(ints.length)];
        int e = ints[random.nextInt(ints.length)];
        switch (which) {
            case 0: return x.player(a, b, c, d, e);
            case 1: return x.set(a, b, c);
            case 2: return x.hush(a, b > 3);
            case 3: return x.row(a, b, c);
            case 4: return x.feed(a);
            case 5: return x.kitchen();
            case 6: return x.pass(a);
            case 7: return x.see(a, b, c);
            case 8: return x.afternoon(a, b);
            case 9: return x.book(a, b);
            case 10: return x.image();
            case 11: return x.undo();
            case 12: return x.tape(a, b, c);
            case 13: return x.item(a, b, random.nextLong());
            case 14: return x.shift(a, b, c, d, e);
            case 15: return x.of(a, b);
            case 16: return x.told(a);
            case 17: return x.on(a, b);
            case 18: return x.wakes();
            case 19: return x.settles();
            case 20: return x.leader(a);
            case 21: return x.seats();
            case 22: return x.whoHush();
            case 23: return x.quick(a);
            case 24: return x.best(a);
            case 25: return x.who();
            case 26: return x.was(a, b);
            case 27: return x.odds(a, b);
            case 28: return x.mean(a, b);
            case 29: return x.gone(a);
            case 30: return x.looked();
            case 31: return x.judge(a, b);
            case 32: return x.act(a, b, c);
            case 33: return x.trace(a);
            case 34: return x.taken(a, b);
            case 35: return x.count(a);
            default: return x.read(a, b);
        }
    }
}
