/** Promises 19 to 23: what is seen, who can have been still, how loud one can have been, odds, means. */
public final class SeenTest {
    private static final Check CHECK = new Check("SeenTest");
    private static final long NO = Long.MIN_VALUE;

    public static void main(String[] args) {
        see();
        who();
        was();
        odds();
        mean();
        CHECK.end();
    }

    private static void due(String call, long got, long want) {
        CHECK.due(call, got, want);
    }

    /** 1 follows 0, who is deaf. */
    private static LidsAndCombs two() {
        LidsAndCombs x = new LidsAndCombs();
        x.player(1, 0, 0, 40, 100);
        x.player(0, 0, 1, 30, 50);
        return x;
    }

    private static void see() {
        LidsAndCombs x = two();
        due("see(-1, ..) of none", x.see(-1, 999, 999), 0);
        due("see(2, 0, 0)", x.see(2, 0, 0), -1);
        due("see(-2, 1, 0)", x.see(-2, 1, 0), -1);
        due("pace 0", x.see(0, 0, 0), -2);
        due("pace 201", x.see(0, 201, 0), -2);
        due("n 9", x.see(0, 1, 9), -2);
        due("n -1", x.see(0, 1, -1), -2);
        int[][] rows = {{0, 1, 0}, {0, 200, 8}, {1, 1, 8}, {1, 200, 0}, {0, 1, 0}};
        for (int r = 0; r < rows.length; r++) {
            due("row " + r, x.see(rows[r][0], rows[r][1], rows[r][2]), r + 1);
        }
        due("a sixth", x.see(0, 1, 0), -4);
        due("a bad sixth", x.see(0, 0, 0), -2);
        due("count(2)", x.count(2), 5);
        due("see(-1, ..)", x.see(-1, 0, -7), 0);
        due("count(2) of none", x.count(2), 0);
        due("the first again", x.see(1, 50, 0), 1);
    }

    private static void who() {
        LidsAndCombs x = two();
        due("nothing seen", x.who(), 3);
        x.see(1, 52, 1);
        due("not if 0 were still", x.who(), 2);
        x.see(1, 50, 0);
        due("50 now, 52 then", x.who(), 2);
        x.see(1, 66, 8);
        due("66 behind eight", x.who(), 2);
        x.see(1, 65, 8);
        due("65 too", x.who(), 0);
        x.see(-1, 0, 0);
        x.see(1, 50, 8);
        due("if 0 were still", x.who(), 1);
        x.hush(0, true);
        due("0 is still, and the other too", x.who(), 3);
        due("1 is not", x.told(6), 1);
        x.see(-1, 0, 0);
        x.see(0, 101, 0);
        due("another pace now", x.who(), 0);
        due("nobody", new LidsAndCombs().who(), 0);
    }

    private static void was() {
        LidsAndCombs x = two();
        due("was(2, 0)", x.was(2, 0), -1);
        due("was(-1, 0)", x.was(-1, 0), -1);
        due("was(0, 2)", x.was(0, 2), -1);
        due("was(0, -1)", x.was(0, -1), -1);
        due("nothing seen", x.was(0, 0), 100);
        due("nothing seen, the least", x.was(0, 1), 0);
        x.see(1, 52, 1);
        due("0 is heard from 3 on", x.was(0, 0), 97);
        due("the least", x.was(0, 1), 3);
        due("1 as loud as it likes", x.was(1, 0), 100);
        due("as loud as it is", x.of(0, 3), 40);
        x.see(-1, 0, 0);
        x.see(1, 50, 1);
        due("0 is not heard", x.was(0, 0), 3);
        due("the least of these", x.was(0, 1), 0);
        x.see(1, 52, 1);
        due("both", x.was(0, 0), 0);
        due("none of these", x.was(0, 1), -5);
        x = new LidsAndCombs();
        x.player(0, 0, 0, 0, 50);
        x.player(1, 0, 0, 99, 100);
        x.player(1, 0, 0, 99, 10);
        Check.kitchen(x, "softer 3 p=1");
        x.see(0, 48, 1);
        due("2 must be louder: nobody is louder than 99", x.was(1, 0), 99);
        due("1 less than 99: 0 follows 2", x.was(1, 1), 0);
        x.see(-1, 0, 0);
        x.see(0, 52, 1);
        due("99 alone", x.was(1, 0), 1);
        due("99", x.was(1, 1), 99);
    }

    private static void odds() {
        due("nobody", new LidsAndCombs().odds(0, 0), NO);
        LidsAndCombs x = new LidsAndCombs();
        x.player(0, 0, 0, 0, 100);
        due("of one: above", x.odds(0, 0), 1);
        due("of one: below", x.odds(0, 1), 1);
        x = two();
        int[][] none = {{-1, 0}, {31, 0}, {0, -1}, {0, 2}};
        for (int[] n : none) {
            due("odds(" + n[0] + ", " + n[1] + ")", x.odds(n[0], n[1]), NO);
        }
        due("of two always: above", x.odds(0, 0), 1);
        due("of two always: below", x.odds(0, 1), 1);
        x = new LidsAndCombs();
        x.player(1, 0, 0, 40, 100);
        x.player(0, 0, 1, 10, 90);
        x.player(0, 0, 2, 10, 80);
        // 0 still: 1 and 2 change for ever; 1 still: 2 wants 10 beats; 2 still: 1 wants 5.
        int[][] want = {{4, 0, 1}, {5, 1, 3}, {9, 1, 3}, {10, 2, 3}, {30, 2, 3}};
        for (int[] w : want) {
            due("odds(" + w[0] + ", 0)", x.odds(w[0], 0), w[1]);
            due("odds(" + w[0] + ", 1)", x.odds(w[0], 1), w[2]);
        }
        due("nobody is still", x.told(6), 0);
        // 0 still: 2 and 3 come to 110 in five beats; 1 still: all are at 100; 2 or 3 still: 0 and 1 stay apart.
        x = new LidsAndCombs();
        x.player(1, 0, 0, 40, 100);
        x.player(1, 0, 0, 40, 110);
        x.player(0, 0, 0, 0, 100);
        x.player(0, 0, 0, 0, 100);
        int[][] lowest = {{0, 1, 4}, {4, 1, 4}, {5, 1, 2}};
        for (int[] w : lowest) {
            due("of four: odds(" + w[0] + ", 0)", x.odds(w[0], 0), w[1]);
            due("of four: odds(" + w[0] + ", 1)", x.odds(w[0], 1), w[2]);
        }
        x.hush(1, true);
        due("1 is still anyway: above", x.odds(0, 0), 1);
        due("1 is still anyway: below", x.odds(0, 1), 1);
    }

    private static void mean() {
        due("nobody", new LidsAndCombs().mean(0, 0), NO);
        LidsAndCombs x = new LidsAndCombs();
        x.player(0, 0, 0, 0, 77);
        due("of one: above", x.mean(60, 0), 77);
        due("of one: below", x.mean(60, 1), 1);
        x = two();
        int[][] none = {{-1, 0}, {61, 0}, {0, -1}, {0, 2}};
        for (int[] n : none) {
            due("mean(" + n[0] + ", " + n[1] + ")", x.mean(n[0], n[1]), NO);
        }
        due("(100 + 50) / 2", x.mean(0, 0), 75);
        due("below 1", x.mean(0, 1), 1);
        due("(100 + 52) / 2", x.mean(1, 0), 76);
        due("(100 + 100) / 2", x.mean(60, 0), 100);
        x.player(1, 0, 0, 0, 1);
        x.player(1, 0, 0, 0, 3);
        x.hush(3, true);
        due("(100 + 50 + 1 + 3) / 4, still ones too", x.mean(0, 0), 77);
        due("below 2", x.mean(0, 1), 2);
        x.set(3, 2, 4);
        due("155 / 4", x.mean(0, 0), 155);
        due("below 4", x.mean(0, 1), 4);
        x.player(1, 0, 0, 0, 7);
        x.player(1, 0, 0, 0, 6);
        due("168 / 6", x.mean(0, 0), 28);
        x.set(5, 2, 9);
        due("171 / 6", x.mean(0, 0), 57);
        due("below 2 of 6", x.mean(0, 1), 2);
    }
}
