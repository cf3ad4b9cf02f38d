/** Promises 15 to 18, sentence by sentence: seats to change, who should be still, how quick to begin, when to stop. */
final class EdgesOfBest extends Edges {
    static void tell() {
        seats();
        seatsOfSeveral();
        whoHush();
        whoHushOfSeveral();
        quick();
        best();
    }

    /** 0 hears 1, who is deaf, 18 loud and in seat 10, from 8 seats off or fewer; all behind these are still. */
    private static LidsAndCombs far(int pace, int seat, String kitchen, int... stillSeats) {
        LidsAndCombs x = new LidsAndCombs();
        x.player(PLAYER, 0, seat, 0, pace);
        x.player(DEAF, 0, 10, 18, 100);
        for (int p = 0; p < stillSeats.length; p++) {
            x.player(PLAYER, 0, stillSeats[p], 0, 7);
            x.hush(2 + p, true);
        }
        return with(x, kitchen);
    }

    private static void seats() {
        holds(15, "SEATS: the two who should change SEATS so that SETTLES is least, if less than it is (not by 60: more than any;",
            () -> {
                LidsAndCombs x = far(40, 0, "step 1;softer 9 p=0", 1);
                due("0 hears nobody", x.settles(), -5);
                due("1 and 2: behind sixty", x.seats(), 12);
                x.set(0, 2, 39);
                due("1 and 2: behind sixty-one", x.seats(), -5);
                x.set(0, 2, 160);
                due("1 and 2: behind sixty, from above", x.seats(), 12);
                x.set(0, 2, 100);
                due("settled", x.seats(), -5);
                x = far(90, 0, "step 1;louder 1 p=1;softer 9 p=0", 1);
                due("0 hears 1 behind three beats", x.settles(), 13);
                due("0 and 2: behind one; 1 and 2: at once", x.seats(), 12);
                x = far(90, 1, "step 1;louder 1 p=1;softer 9 p=0", 2);
                due("0 hears 1 behind one beat", x.settles(), 11);
                due("one less is less", x.seats(), 2);
                x = far(90, 2, "step 1;softer 9 p=0", 3);
                due("0 hears 1 at once", x.settles(), 10);
                due("nothing is less", x.seats(), -5);
            });
        holds(15, "10 times the lesser and the greater number; of several the first; -5: none).", () -> {
            due("nobody", nobody().seats(), -5);
            due("one", loud(9).seats(), -5);
            due("two in one seat", paces(1, 2).seats(), -5);
            due("1 and 2, 1 and 3 alike", far(90, 0, "softer 9 p=0", 1, 1).seats(), 12);
            LidsAndCombs x = far(90, 0, "step 1;louder 1 p=1;softer 9 p=0", 5, 4);
            x.set(1, 1, 10);
            due("0 hears 1 behind eleven beats", x.settles(), 21);
            due("1 and 3 at once; 02 and 12 behind one, 03 behind three", x.seats(), 13);
            due("0 and 2 ahead of 1 and 2", far(90, 0, "softer 9 p=0", 3).seats(), 2);
            due("0 and 3 ahead of 1 and 2", far(90, 0, "softer 9 p=0", 0, 3).seats(), 3);
        });
        holds(15, "SEATS; -5.", () -> {
            LidsAndCombs x = far(90, 0, "softer 9 p=0", 3);
            x.hush(0, true);
            due("one alone is not still", x.seats(), -5);
            x.hush(1, true);
            due("all are still", x.seats(), -5);
            x.hush(2, false);
            due("again one", x.seats(), -5);
        });
    }

    private static void seatsOfSeveral() {
        holds(15, "10 times the lesser and the greater number;", () -> {
            // 1, 2 and 3 hear 0 from where they are, and from nowhere that 0 or 5 could go; 4 is still beside 0.
            LidsAndCombs x = new LidsAndCombs();
            x.player(DEAF, 0, 0, 18, 100);
            for (int p = 1; p <= 3; p++) {
                x.player(PLAYER, 0, 19, 0, 90);
            }
            x.player(PLAYER, 0, 1, 0, 7);
            x.player(PLAYER, 0, 10, 0, 80);
            x.hush(4, true);
            Check.kitchen(x, "softer 9 p>0");
            due("5 hears nobody", x.settles(), -5);
            due("4 and 5", x.seats(), 45);
            due("the seats are as they were", x.of(4, 2) * 100 + x.of(5, 2), 110);
        });
        holds(15, "of several the first;", () -> {
            LidsAndCombs x = far(90, 0, "softer 9 p=0", 3, 3, 3, 3);
            due("0 and 2 of many", x.seats(), 2);
            x.set(2, 0, 0);
            due("0 and 3 of many", x.seats(), 3);
            x.set(3, 0, 0);
            x.set(4, 0, 0);
            due("0 and 5, not 1 and 2", x.seats(), 5);
        });
    }

    private static void whoHush() {
        holds(16, "HUSH: who of those who are not STILL should be, so that WAKES is greatest, if greater than it is "
            + "(not by 60: more than any;", () -> {
            LidsAndCombs x = new LidsAndCombs();
            x.player(PLAYER, 0, 0, 0, 100);
            x.player(PLAYER, 0, 10, 0, 100);
            Check.kitchen(x, "softer 9 p=0;louder 1 p=1");
            due("behind sixty", x.wakes(), 60);
            due("without 1 not by 60", x.whoHush(), 1);
            Check.kitchen(x, "softer 9 p=0;louder 1 p=1;wake 61");
            due("not by 60", x.wakes(), -5);
            due("nothing is greater", x.whoHush(), -5);
            due("each of them would wake her", loud(60, 60).whoHush(), -5);
            due("the last of six alone wakes her", loud(0, 0, 0, 0, 0, 60).whoHush(), 5);
            x = with(loud(60, 60), "wake 0");
            due("she wakes at nothing", x.whoHush(), -5);
        });
        holds(16, "who of those who are not STILL should be,", () -> {
            LidsAndCombs x = loud(60, 60, 60);
            x.hush(0, true);
            due("two of them", x.whoHush(), -5);
            x.hush(2, true);
            due("one of them", x.whoHush(), 1);
            x.hush(1, true);
            due("all are still", x.whoHush(), -5);
            due("all are still, wake 0", with(x, "wake 0").whoHush(), -5);
        });
    }

    private static void whoHushOfSeveral() {
        holds(16, "so that WAKES is greatest, if greater than it is", () -> {
            LidsAndCombs x = new LidsAndCombs();
            x.player(PLAYER, 0, 0, 10, 100);
            x.player(PLAYER, 0, 10, 20, 100);
            x.player(PLAYER, 0, 5, 0, 100);
            Check.kitchen(x, "louder 1 p=0;louder 2 p=1;softer 9 p=2;wake 50");
            due("30, and 3 a beat", x.wakes(), 7);
            due("without 0 behind 15 beats, without 1 behind 40", x.whoHush(), 1);
            Check.kitchen(x, "louder 3 p=0;louder 1 p=1;softer 9 p=2;wake 50");
            due("30, and 4 a beat", x.wakes(), 5);
            due("without 0 behind 30 beats, without 1 behind 14", x.whoHush(), 0);
        });
        holds(16, "of several the first; -5: none).", () -> {
            due("nobody", nobody().whoHush(), -5);
            due("one too quiet", loud(59).whoHush(), -5);
            due("one", loud(60).whoHush(), 0);
            due("two alike", loud(30, 30).whoHush(), 0);
            due("three, of whom two are alike", loud(0, 30, 30).whoHush(), 1);
        });
        holds(16, "HUSH; -5.", () -> due("nobody who wakes her", paces(1, 2, 3).whoHush(), -5));
    }

    private static void quick() {
        holds(17, "QUICK of one: the least multiple of 10 (10 .. 200) by which, were that its PACE now, SETTLES is 30 or less "
            + "(-5: none).", () -> {
            int[][] deaf = {{10, 10}, {200, 200}, {100, 100}, {1, -5}, {9, -5}, {11, -5}, {195, -5}, {199, -5}};
            for (int[] d : deaf) {
                due("as quick as one of pace " + d[0], paces(77, d[0]).quick(0), d[1]);
                due("nor by the other's place", paces(d[0], 77).quick(1), d[1]);
            }
            due("30 beats from 40", pair(100).quick(1), 40);
            LidsAndCombs x = pair(100);
            x.set(0, 2, 101);
            due("31 beats from 40", x.quick(1), 50);
            x.set(0, 2, 70);
            due("30 beats from 10", x.quick(1), 10);
            x.set(0, 2, 1);
            due("from 10 down", x.quick(1), 10);
            x.set(0, 2, 200);
            due("from 140 up", x.quick(1), 140);
            due("one alone", loud(9).quick(0), 10);
            due("a third is in the way", paces(10, 20, 30).quick(0), -5);
            x = paces(10, 20, 20);
            x.hush(0, true);
            due("of a still one any", x.quick(0), 10);
            x.hush(0, false);
            due("its pace is not looked at", x.quick(0), 20);
            due("its pace is as it was", x.of(0, 4), 10);
        });
        holds(17, "QUICK; -5.", () -> due("step 0", with(pair(105), "step 0").quick(0), -5));
        holds(17, "NONE.", () -> {
            due("nobody: quick(0)", nobody().quick(0), -1);
            for (int p : new int[] {-1, 2, 6, FAR_BELOW, FAR_ABOVE}) {
                due("quick(" + p + ")", pair(100).quick(p), -1);
            }
        });
    }

    private static void best() {
        holds(18, "BEST of n BEATS (0 .. 60): behind how many of 0 .. n EARNED is most (of several the fewest).", () -> {
            due("nobody", nobody().best(60), 0);
            due("nothing is earned", loud(4).best(60), 0);
            LidsAndCombs x = loud(5);
            for (int n = 0; n <= 60; n++) {
                due("one more each: best(" + n + ")", x.best(n), n);
            }
            x = with(loud(0), "louder 10 p=0;wake 35;pay 1");
            int[] want = {0, 0, 2, 3, 4, 4, 4};
            for (int n = 0; n < want.length; n++) {
                due("0 0 10 30 60 50 40: best(" + n + ")", x.best(n), want[n]);
            }
            due("best(60)", x.best(60), 4);
            x.pass(4);
            due("less with each", x.best(60), 0);
            x = with(loud(98), "wake 99;pay 1");
            for (int n = 0; n < 17; n++) {
                x.pass(60);
            }
            x.set(0, 1, 39);
            due("99999 behind one, and then for ever", x.best(60), 1);
            x.pass(1);
            due("99999 now", x.best(60), 0);
        });
        holds(18, "behind how many of 0 .. n EARNED is most (of several the fewest)", () -> {
            // EARNED 10, and then by turns 10 more and 10 less.
            LidsAndCombs x = with(loud(10), "pay 1;wake 60;louder 60 b=1;softer 60 b=2;louder 60 b=3;softer 60 b=4");
            x.pass(1);
            due("EARNED", x.told(1), 10);
            due("behind one beat", x.on(1, 1), 20);
            due("behind two", x.on(2, 1), 10);
            due("behind three", x.on(3, 1), 20);
            due("behind four", x.on(4, 1), 10);
            due("of 1 and 3 the fewest", x.best(4), 1);
            due("of 0 alone", x.best(0), 0);
        });
        holds(18, "BEST.", () -> {
            LidsAndCombs x = with(loud(1), "pay 1;louder 1 p=0");
            due("best(0)", x.best(0), 0);
            due("60 is too loud: best(60)", x.best(60), 59);
            due("best(59)", x.best(59), 59);
            due("best(58)", x.best(58), 58);
            due("EARNED is as it was", x.told(1), 0);
        });
        holds(18, "BAD.", () -> {
            for (int n : new int[] {-1, 61, FAR_BELOW, FAR_ABOVE}) {
                due("best(" + n + ")", loud(9).best(n), -2);
                due("nobody: best(" + n + ")", nobody().best(n), -2);
            }
        });
    }
}
