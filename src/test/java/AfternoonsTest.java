/** Promises 24 to 28: afternoons, books, and rows of paces that are judged. */
public final class AfternoonsTest {
    private static final Check CHECK = new Check("AfternoonsTest");

    public static void main(String[] args) {
        afternoon();
        gone();
        book();
        looked();
        judge();
        judgeEnds();
        CHECK.end();
    }

    private static void due(String call, long got, long want) {
        CHECK.due(call, got, want);
    }

    private static void afternoon() {
        LidsAndCombs x = new LidsAndCombs();
        due("afternoon(3, 0)", x.afternoon(3, 0), -1);
        due("afternoon(-2, 0)", x.afternoon(-2, 0), -1);
        due("nobody to be still", x.afternoon(1, 0), -1);
        due("a beat of nobody", x.afternoon(0, -9), 1);
        due("empty", x.afternoon(-1, -9), 0);
        due("count(3)", x.count(3), 0);
        x.player(0, 0, 0, 30, 100);
        due("afternoon(3, 0)", x.afternoon(3, 0), -1);
        due("afternoon(1, 1)", x.afternoon(1, 1), -1);
        due("afternoon(2, 1)", x.afternoon(2, 1), -1);
        due("afternoon(2, -1)", x.afternoon(2, -1), -1);
        for (int r = 0; r < 10; r++) {
            due("row " + r, x.afternoon(r % 3, 0), r + 1);
        }
        due("an eleventh", x.afternoon(0, 0), -4);
        due("an eleventh that is none", x.afternoon(1, 1), -1);
        due("count(3) of ten", x.count(3), 10);
        due("empty again", x.afternoon(-1, 0), 0);
        due("count(3) of none", x.count(3), 0);
    }

    private static void gone() {
        LidsAndCombs x = new LidsAndCombs();
        x.player(0, 0, 0, 30, 100);
        x.player(0, 0, 10, 20, 100);
        due("gone(-1)", x.gone(-1), -1);
        due("gone(2)", x.gone(2), -1);
        due("nothing told: NOISE", x.gone(0), 50);
        due("nothing told: EARNED", x.gone(1), 0);
        x.afternoon(0, 0);
        due("a beat: NOISE", x.gone(0), 50);
        due("a beat: EARNED", x.gone(1), 10);
        x.afternoon(1, 0);
        due("0 is still: NOISE", x.gone(0), 20);
        due("0 is still: EARNED", x.gone(1), 10);
        x.afternoon(0, 0);
        due("a beat of 1 alone", x.gone(1), 14);
        x.afternoon(1, 1);
        x.afternoon(2, 0);
        due("now 0 alone", x.gone(0), 30);
        x.afternoon(0, 0);
        due("a beat of 0 alone", x.gone(1), 20);
        due("how all is: still", x.told(6), 0);
        due("how all is: BEAT", x.told(0), 0);
        x.pass(1);
        due("from how all is", x.gone(1), 30);
        x.afternoon(-1, 0);
        due("empty: EARNED", x.gone(1), 10);
    }

    private static void book() {
        LidsAndCombs x = new LidsAndCombs();
        due("nobody", x.book(0, 1), -1);
        x.player(0, 0, 0, 30, 100);
        due("book(1, 0)", x.book(1, 0), -1);
        due("book(-2, 1)", x.book(-2, 1), -1);
        due("book(0, 0)", x.book(0, 0), -2);
        due("book(0, 201)", x.book(0, 201), -2);
        for (int r = 0; r < 8; r++) {
            due("row " + r, x.book(0, r == 0 ? 1 : 200), r + 1);
        }
        due("a ninth", x.book(0, 1), -4);
        due("a bad ninth", x.book(0, 0), -2);
        due("count(4)", x.count(4), 8);
        due("empty", x.book(-1, 999), 0);
        due("count(4) of none", x.count(4), 0);
    }

    private static void looked() {
        LidsAndCombs x = PlayersTest.six();
        due("nothing to look at", x.looked(), -5);
        x.book(0, 100);
        x.book(1, 80);
        due("all so", x.looked(), -5);
        x.book(3, 61);
        x.book(4, 151);
        due("the third is otherwise", x.looked(), 2);
        x.set(3, 2, 61);
        due("now the fourth", x.looked(), 3);
        x.set(0, 2, 99);
        due("now the first", x.looked(), 0);
        x.book(-1, 0);
        due("empty", x.looked(), -5);
    }

    private static void judge() {
        LidsAndCombs x = new LidsAndCombs();
        due("judge(-1, 0)", x.judge(-1, 0), -1);
        due("judge(6, 0)", x.judge(6, 0), -1);
        due("nobody, nothing: none to look at", x.judge(0, 0), -5);
        x.tape(0, 2, 3);
        due("no row of shorts", x.judge(0, -1), -12);
        x.player(0, 0, 0, 30, 100);
        x.player(0, 0, 0, 30, 110);
        x.player(0, 0, 0, 30, 120);
        for (int sort = 0; sort < 5; sort++) {
            x.tape(1, sort, 6);
            due("of sort " + sort, x.judge(1, 0), sort == 1 ? 0 : -12);
        }
        x.tape(0, 1, 6);
        for (int k = 0; k < 6; k++) {
            x.item(0, k, 90 + 10 * k);
        }
        due("all so, from 1 on", x.judge(0, 1), -5);
        due("the first is otherwise", x.judge(0, 0), 0);
        x.item(0, 2, 111);
        due("the second is otherwise", x.judge(0, 1), 1);
        x.item(0, 2, 110);
        x.item(0, 3, 119);
        due("the third is otherwise", x.judge(0, 1), 2);
        x.item(0, 3, 120 + (1 << 16));
        due("as much as a short holds", x.judge(0, 1), -5);
    }

    private static void judgeEnds() {
        LidsAndCombs x = new LidsAndCombs();
        x.player(0, 0, 0, 30, 100);
        x.player(0, 0, 0, 30, 110);
        x.player(0, 0, 0, 30, 120);
        due("the tape holds nothing", x.judge(0, 0), 100);
        x.tape(0, 1, 2);
        x.item(0, 0, 100);
        x.item(0, 1, 110);
        due("two looked at", x.judge(0, 0), 102);
        x.item(0, 1, 100);
        due("otherwise ahead of the end", x.judge(0, 0), 1);
        due("one looked at", x.judge(0, 1), 101);
        due("none looked at", x.judge(0, 2), 100);
        due("far beyond the end", x.judge(0, Integer.MAX_VALUE), 100);
        due("below 0", x.judge(0, -1), 100);
        due("far below 0", x.judge(0, Integer.MIN_VALUE), 100);
        x.tape(0, 1, 0);
        due("an empty row", x.judge(0, 0), 100);
    }
}
