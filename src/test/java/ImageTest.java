/** Promises 29 and 30: the image, and all as it was. */
public final class ImageTest {
    private static final Check CHECK = new Check("ImageTest");

    public static void main(String[] args) {
        empty();
        all();
        notIn();
        kitchens();
        CHECK.end();
    }

    private static void due(String call, long got, long want) {
        CHECK.due(call, got, want);
    }

    private static void empty() {
        LidsAndCombs x = new LidsAndCombs();
        due("no image", x.undo(), -3);
        due("of nobody", x.image(), 0);
        x.player(6, 1, 2, 30, 100);
        x.row(0, 0, 7);
        x.hush(0, true);
        due("back to nobody", x.undo(), 0);
        due("count(0)", x.count(0), 0);
        due("nobody is there", x.of(0, 0), -1001);
        due("nobody is still", x.told(6), 0);
        due("another comes", x.player(6, 1, 2, 30, 100), 0);
        due("with a row of its own", x.row(0, 0, 0), 0);
        due("not still", x.of(0, 5), 0);
        x.row(0, 2, 8);
        due("an image with a row", x.image(), 1);
        x.row(0, 2, 3);
        x.undo();
        due("the row as it was", x.row(0, 2, 0), 8);
    }

    private static void all() {
        LidsAndCombs x = PlayersTest.six();
        x.pass(3);
        x.hush(4, true);
        Check.kitchen(x, "wake 99;pay 1;step 3;softer 70 p<4");
        x.pass(20);
        x.set(0, 2, 50);
        x.see(0, x.on(2, 10), 2);
        x.see(1, 80, 1);
        x.afternoon(0, 0);
        x.afternoon(1, 5);
        x.afternoon(0, 0);
        x.book(1, x.of(1, 4));
        x.book(2, x.of(2, 4));
        x.book(3, 1);
        due("0 goes on behind what is seen of it", x.on(2, 10) != x.on(3, 10) ? 1 : 0, 1);
        due("all that is seen is so", x.who(), 31);
        due("the book is so but for its last", x.looked(), 2);
        long[] before = probe(x);
        due("image()", x.image(), 6);
        for (int again = 0; again < 2; again++) {
            for (int p = 0; p < 6; p++) {
                x.set(p, 0, 7);
                x.set(p, 1, 70);
                x.set(p, 2, 7);
                x.hush(p, p != 4);
            }
            x.see(-1, 0, 0);
            x.see(1, 2, 3);
            x.afternoon(-1, 0);
            x.afternoon(1, 3);
            x.afternoon(2, 2);
            x.book(-1, 0);
            x.book(0, 9);
            Check.kitchen(x, "step 9");
            x.pass(5);
            due("undo()", x.undo(), 6);
            long[] behind = probe(x);
            for (int k = 0; k < before.length; k++) {
                due("all as before, " + k, behind[k], before[k]);
            }
            x.book(1, 4);
            due("the book goes on", x.count(4), 4);
        }
    }

    private static long[] probe(LidsAndCombs x) {
        long[] row = new long[6 * 11 + 17];
        int n = 0;
        for (int p = 0; p < 6; p++) {
            for (int what = 0; what <= 10; what++) {
                row[n++] = x.of(p, what);
            }
        }
        for (int what = 0; what <= 6; what++) {
            row[n++] = x.told(what);
        }
        for (int what = 2; what <= 4; what++) {
            row[n++] = x.count(what);
        }
        row[n++] = x.count(0);
        row[n++] = x.who();
        row[n++] = x.looked();
        row[n++] = x.gone(0);
        row[n++] = x.gone(1);
        row[n++] = x.on(9, 10);
        row[n++] = x.was(0, 0);
        return row;
    }

    private static void notIn() {
        LidsAndCombs x = new LidsAndCombs();
        x.player(0, 0, 0, 0, 1);
        x.image();
        Check.feed(x, "ste");
        x.tape(0, 0, 3);
        x.item(0, 0, 5);
        x.act(0, 2, 4);
        x.undo();
        due("the text stays", x.count(5), 3);
        due("tapes stay", x.read(0, 0), 5);
        due("the trace stays", x.count(6), 3);
        due("the trace", x.trace(0), 12);
        x.player(0, 0, 0, 0, 2);
        due("a newer image", x.image(), 2);
        x.player(0, 0, 0, 0, 3);
        due("is the one that holds", x.undo(), 2);
        due("and stays", x.undo(), 2);
    }

    private static void kitchens() {
        LidsAndCombs x = new LidsAndCombs();
        x.image();
        Check.kitchen(x, "step 7");
        due("the newest holds", x.told(3), 7);
        x.undo();
        due("none holds", x.told(3), 2);
        due("but there is one", x.count(1), 1);
        due("the next number", Check.kitchen(x, "step 8"), 1);
        x.image();
        Check.kitchen(x, "step 9");
        Check.kitchen(x, "step ");
        due("the third holds", x.told(3), 9);
        x.undo();
        due("the second holds", x.told(3), 8);
        due("there are three", x.count(1), 3);
        for (int k = 3; k < 6; k++) {
            due("kitchen " + k, Check.kitchen(x, "step 1"), k);
        }
        x.undo();
        due("undone, all six are there", Check.kitchen(x, "step 1"), -4);
        due("the second holds again", x.told(3), 8);
    }
}
