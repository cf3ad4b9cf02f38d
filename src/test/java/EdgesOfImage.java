import java.util.Arrays;
import java.util.function.Consumer;

/** Promises 29 and 30, sentence by sentence: the image, and all as it was. */
final class EdgesOfImage extends Edges {
    static void tell() {
        image();
        undo();
        whole();
        notInIt();
    }

    private static void image() {
        holds(29, "THE IMAGE is taken: how many PLAYERS there are.", () -> {
            due("nobody", nobody().image(), 0);
            due("one", loud(9).image(), 1);
            due("six", loud(1, 2, 3, 4, 5, 6).image(), 6);
            LidsAndCombs x = loud(9);
            x.image();
            x.player(0, 0, 0, 0, 1);
            due("a newer one", x.image(), 2);
            x.player(0, 0, 0, 0, 1);
            due("the newer one is there", x.undo(), 2);
        });
    }

    private static void undo() {
        holds(30, "All is as THE IMAGE: how many PLAYERS.", () -> {
            LidsAndCombs x = nobody();
            x.image();
            x.player(0, 0, 0, 9, 1);
            due("of nobody", x.undo(), 0);
            due("nobody is there", x.of(0, 3), -1001);
            due("the next is the first", x.player(0, 0, 0, 7, 1), 0);
            due("again of nobody", x.undo(), 0);
            x = loud(1, 2, 3, 4, 5, 6);
            x.image();
            due("of six", x.undo(), 6);
            x.set(5, 1, 99);
            due("again of six", x.undo(), 6);
            due("the sixth as it was", x.of(5, 3), 6);
        });
        holds(30, "STATE: there is none.", () -> {
            due("nobody", nobody().undo(), -3);
            LidsAndCombs x = loud(9);
            x.set(0, 1, 8);
            due("one", x.undo(), -3);
            due("it is as it was", x.of(0, 3), 8);
            due("again", x.undo(), -3);
        });
    }

    /** That what changes is as it was behind undo(), also when it changes again. */
    private static void undone(String what, Consumer<LidsAndCombs> change) {
        LidsAndCombs x = full();
        x.image();
        long[] before = state(x);
        for (int again = 1; again <= 2; again++) {
            change.accept(x);
            due(what + " has changed", Arrays.equals(state(x), before) ? 1 : 0, 0);
            x.undo();
            due(what + " is as it was", Arrays.equals(state(x), before) ? 1 : 0, 1);
        }
    }

    private static void whole() {
        holds(30, "THE IMAGE: PLAYERS with all that is theirs, BEAT, EARNED, SEEN, the AFTERNOON, the BOOK, which KITCHEN holds.", () -> {
            undone("one more", x -> x.player(1, 1, 1, 1, 1));
            undone("a seat", x -> x.set(0, 0, 7));
            undone("how loud one is", x -> x.set(0, 1, 41));
            undone("a pace", x -> x.set(0, 2, 7));
            undone("one who is still", x -> x.hush(2, false));
            undone("one who is not", x -> x.hush(0, true));
            undone("a row", x -> x.row(1, 2, 0));
            undone("BEAT and EARNED", x -> x.pass(2));
            undone("what is seen, one more", x -> x.see(1, 1, 0));
            undone("what is seen, none", x -> x.see(-1, 0, 0));
            undone("the afternoon, one more", x -> x.afternoon(0, 0));
            undone("the afternoon, empty", x -> x.afternoon(-1, 0));
            undone("the book, one more", x -> x.book(0, 1));
            undone("the book, empty", x -> x.book(-1, 0));
        });
        holds(30, "PLAYERS with all that is theirs, BEAT, EARNED,", () -> {
            LidsAndCombs x = loud(40, 10);
            x.pass(2);
            x.image();
            int[] behind = {x.pass(3), x.told(1), x.of(1, 3)};
            x.undo();
            due("BEAT", x.told(0), 2);
            due("EARNED", x.told(1), 20);
            due("how loud 1 is", x.of(1, 3), 16);
            due("it goes on alike", x.pass(3), behind[0]);
            due("EARNED", x.told(1), behind[1]);
            due("how loud 1 is", x.of(1, 3), behind[2]);
        });
        holds(30, "SEEN, the AFTERNOON, the BOOK,", () -> {
            LidsAndCombs x = loud(9);
            x.see(0, 100, 3);
            x.afternoon(1, 0);
            x.book(0, 99);
            x.image();
            for (int again = 0; again < 2; again++) {
                x.see(-1, 0, 0);
                x.see(0, 1, 0);
                x.afternoon(-1, 0);
                x.afternoon(0, 0);
                x.book(-1, 0);
                x.book(0, 100);
                due("otherwise: who()", x.who(), 0);
                due("otherwise: gone(0)", x.gone(0), 9);
                due("otherwise: looked()", x.looked(), -5);
                x.undo();
                due("as it was: who()", x.who(), 1);
                due("as it was: gone(0)", x.gone(0), 0);
                due("as it was: looked()", x.looked(), 0);
            }
            x = pair(50);
            x.see(1, 56, 3);
            x.see(1, 66, 8);
            x.image();
            x.see(-1, 0, 0);
            x.see(0, 1, 0);
            x.see(0, 2, 1);
            due("otherwise: who()", x.who(), 0);
            x.undo();
            due("as it was, behind as many beats: who()", x.who(), 2);
        });
        holds(30, "which KITCHEN holds.", () -> {
            LidsAndCombs x = loud(9);
            x.image();
            Check.kitchen(x, "step 7;louder 3 p=0");
            x.undo();
            due("none holds", x.told(3), 2);
            due("MORE without one", x.of(0, 10), 0);
            due("the next kitchen's number", Check.kitchen(x, "step 8;louder 4 p=0"), 1);
            x.image();
            due("the one behind", Check.kitchen(x, "step 9"), 2);
            x.undo();
            due("the one of the image holds", x.told(3), 8);
            due("MORE by it", x.of(0, 10), 4);
            due("there are three", x.count(1), 3);
        });
    }

    private static void notInIt() {
        holds(30, "All is as THE IMAGE:", () -> {
            LidsAndCombs x = full();
            Check.feed(x, "9");
            x.tape(0, 3, 2);
            x.item(0, 0, -9);
            x.act(0, 1, 2);
            x.undo();
            due("the text stays", x.count(5), 6);
            due("a tape stays", x.read(0, 0), -9);
            due("the trace stays", x.trace(0), 20);
            due("kitchens stay: the text is one", x.kitchen(), 1);
            due("told(3)", x.told(3), 9);
        });
    }
}
