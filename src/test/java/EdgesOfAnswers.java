import java.util.function.ToLongFunction;

/** What the document says of all answers: which comes first, and what changes nothing. */
final class EdgesOfAnswers extends Edges {
    private static final String FIRST = "the first that a call's words name.";
    private static final String REFUSED = "What is answered so changes nothing;";
    private static final String ASKED = "what is asked changes nothing.";

    static void tell() {
        constants();
        firstOfPlayers();
        firstOfRows();
        firstOfTapes();
        refused();
        asked();
        askedOfTapes();
    }

    private static void constants() {
        holds(1, "Answers: NONE (-1) no such number; BAD (-2) a number is not as told; STATE (-3) as told; FULL (-4);", () -> {
            due("NONE", LidsAndCombs.NONE, -1);
            due("BAD", LidsAndCombs.BAD, -2);
            due("STATE", LidsAndCombs.STATE, -3);
            due("FULL", LidsAndCombs.FULL, -4);
        });
        holds(37, "The constants: `NO = Long.MIN_VALUE`: There is no such number.", () -> {
            due("NO", LidsAndCombs.NO, Long.MIN_VALUE);
            due("read(0, 0)", nobody().read(0, 0), LidsAndCombs.NO);
        });
        holds(35, "The host's refusals: NOTHING (-11): nothing is there; CAST (-12): another sort or KIND; "
            + "PLACE (-13): no such place; SIZE (-14): a size below 0.", () -> {
            LidsAndCombs x = full();
            due("nothing is there", x.item(3, 0, 1), -11);
            due("another sort", x.shift(0, 0, 2, 0, 1), -12);
            due("another kind", x.taken(0, 2), -12);
            due("no such place", x.item(0, 3, 1), -13);
            due("a size below 0", x.tape(0, 0, -1), -14);
        });
    }

    private static void firstOfPlayers() {
        holds(2, FIRST, () -> {
            LidsAndCombs six = loud(1, 2, 3, 4, 5, 6);
            due("kind and v", nobody().player(7, 10, 0, 0, 1), -1);
            due("kind and a seventh", six.player(-1, 0, 0, 0, 1), -1);
            due("v and a seventh", six.player(0, 10, 0, 0, 1), -2);
            due("seat and a seventh", six.player(0, 0, 20, 0, 1), -2);
            due("loud and a seventh", six.player(0, 0, 0, 100, 1), -2);
            due("pace and a seventh", six.player(0, 0, 0, 0, 0), -2);
        });
        holds(4, FIRST, () -> {
            due("no such player, and n", loud(9).set(1, 0, 20), -1);
            due("no such what, and n", loud(9).set(0, 3, -1), -1);
        });
        holds(6, FIRST, () -> {
            LidsAndCombs x = loud(9);
            due("no such player, and n", x.row(1, 0, 10), -1);
            due("part, n and kind", x.row(0, 4, 10), -1);
            due("part and kind", x.row(0, -1, 0), -1);
            due("n and kind", x.row(0, 0, 10), -2);
        });
        holds(7, FIRST, () -> {
            LidsAndCombs x = nobody();
            for (int n = 0; n < 100; n++) {
                x.feed('x');
            }
            due("no sign, and a 101st", x.feed(128), -2);
            due("no sign below, and a 101st", x.feed(-1), -2);
        });
        holds(8, FIRST, () -> {
            LidsAndCombs x = nobody();
            for (int k = 0; k < 6; k++) {
                Check.kitchen(x, "pay 1");
            }
            due("a seventh with a fault", Check.kitchen(x, "?"), -4);
        });
        holds(10, FIRST, () -> {
            LidsAndCombs x = EdgesOfBeats.atLastBeat(nobody());
            due("n, and beyond the last beat", x.pass(61), -2);
            due("n far above, and beyond the last beat", x.pass(FAR_ABOVE), -2);
        });
        holds(11, FIRST, () -> {
            due("what and n", loud(9).on(61, 2), -1);
            due("no such player and n", loud(9).on(-1, 11), -1);
        });
    }

    private static void firstOfRows() {
        holds(19, FIRST, () -> {
            LidsAndCombs x = loud(9);
            for (int r = 0; r < 5; r++) {
                due("no such player, and pace", x.see(1, 0, 0), -1);
                due("no such player, and n", x.see(1, 1, 9), -1);
                x.see(0, 1, 0);
            }
            due("no such player, and a sixth", x.see(1, 1, 0), -1);
            due("pace, and a sixth", x.see(0, 0, 0), -2);
            due("n, and a sixth", x.see(0, 1, 9), -2);
        });
        holds(22, FIRST, () -> due("n, part and nobody", nobody().odds(31, 2), NO));
        holds(24, FIRST, () -> {
            LidsAndCombs x = loud(9);
            for (int r = 0; r < 10; r++) {
                x.afternoon(0, 0);
            }
            due("what, and an eleventh", x.afternoon(3, 0), -1);
            due("no such player, and an eleventh", x.afternoon(1, 1), -1);
        });
        holds(26, FIRST, () -> {
            LidsAndCombs x = loud(9);
            due("no such player, and pace", x.book(1, 0), -1);
            for (int r = 0; r < 8; r++) {
                x.book(0, 1);
            }
            due("no such player, and a ninth", x.book(1, 1), -1);
            due("pace, and a ninth", x.book(0, 0), -2);
        });
        holds(33, FIRST, () -> {
            due("k and no such player", loud(9).taken(1, 7), -2);
            due("no such player, who would be none", loud(9).taken(1, 4), -11);
        });
    }

    private static void firstOfTapes() {
        holds(35, FIRST, () -> {
            due("tape and sort", nobody().tape(6, 5, 0), -1);
            due("tape and a size below 0", nobody().tape(-1, 0, -1), -1);
            due("sort and a size below 0", nobody().tape(0, 5, -1), -2);
        });
        holds(36, FIRST, () -> {
            due("tape and place", full().item(6, -1, 1), -1);
            due("nothing there, and place", full().item(3, -1, 1), -11);
        });
        holds(38, FIRST, () -> {
            LidsAndCombs x = full();
            due("the other tape, and nothing there", x.shift(3, 0, 6, 0, 1), -1);
            due("a tape, and place", x.shift(-1, -1, 0, 0, 1), -1);
            due("nothing there, and place", x.shift(0, -1, 3, 0, 1), -11);
            due("nothing there, and no items of it", x.shift(3, 0, 2, 0, -1), -11);
            due("unlike sorts, and place", x.shift(0, -1, 2, 0, 1), -12);
            due("unlike sorts, and how many", x.shift(0, 0, 2, 0, -1), -12);
        });
    }

    private static void refused(int promise, String call, ToLongFunction<LidsAndCombs> made, long want) {
        holds(promise, REFUSED, () -> {
            LidsAndCombs x = full();
            same(call, x, () -> due(call, made.applyAsLong(x), want));
        });
    }

    private static void refused() {
        refused(2, "player(7, 0, 0, 0, 1)", x -> x.player(7, 0, 0, 0, 1), -1);
        refused(2, "player(0, 0, 0, 0, 201)", x -> x.player(0, 0, 0, 0, 201), -2);
        refused(4, "set(3, 0, 0)", x -> x.set(3, 0, 0), -1);
        refused(4, "set(0, 2, 0)", x -> x.set(0, 2, 0), -2);
        refused(5, "hush(3, true)", x -> x.hush(3, true), -1);
        refused(6, "row(1, 4, 0)", x -> x.row(1, 4, 0), -1);
        refused(6, "row(1, 2, 10)", x -> x.row(1, 2, 10), -2);
        refused(6, "row(0, 2, 1)", x -> x.row(0, 2, 1), -3);
        refused(7, "feed(128)", x -> x.feed(128), -2);
        refused(10, "pass(61)", x -> x.pass(61), -2);
        refused(19, "see(3, 1, 0)", x -> x.see(3, 1, 0), -1);
        refused(19, "see(0, 1, 9)", x -> x.see(0, 1, 9), -2);
        refused(24, "afternoon(3, 0)", x -> x.afternoon(3, 0), -1);
        refused(26, "book(3, 1)", x -> x.book(3, 1), -1);
        refused(26, "book(0, 201)", x -> x.book(0, 201), -2);
        refused(35, "tape(0, 5, 1)", x -> x.tape(0, 5, 1), -2);
        refused(35, "tape(0, 0, -1)", x -> x.tape(0, 0, -1), -14);
        refused(36, "item(0, 3, 1)", x -> x.item(0, 3, 1), -13);
        refused(38, "shift(0, 1, 0, 0, 3)", x -> x.shift(0, 1, 0, 0, 3), -13);
        holds(10, REFUSED, () -> {
            LidsAndCombs x = EdgesOfBeats.atLastBeat(with(loud(5, 9), "louder 1 b=3"));
            same("pass(1) at the last beat", x, () -> due("pass(1)", x.pass(1), -3));
        });
        holds(30, REFUSED, () -> {
            LidsAndCombs x = pair(50);
            same("undo() without an image", x, () -> due("undo()", x.undo(), -3));
        });
        holds(2, REFUSED, () -> {
            LidsAndCombs x = loud(1, 2, 3, 4, 5, 6);
            same("a seventh", x, () -> due("player(0, 0, 0, 7, 1)", x.player(0, 0, 0, 7, 1), -4));
        });
        holds(8, REFUSED, () -> {
            LidsAndCombs x = loud(9);
            for (int k = 0; k < 6; k++) {
                Check.kitchen(x, "step " + k);
            }
            Check.feed(x, "step 9");
            same("a seventh kitchen", x, () -> due("kitchen()", x.kitchen(), -4));
        });
    }

    private static void asked(int promise, String call, ToLongFunction<LidsAndCombs> made) {
        holds(promise, ASKED, () -> {
            LidsAndCombs x = full();
            same(call, x, () -> {
                long first = made.applyAsLong(x);
                due(call + " again", made.applyAsLong(x), first);
            });
        });
    }

    private static void asked() {
        asked(3, "of(1, 9)", x -> x.of(1, 9));
        asked(9, "told(2)", x -> x.told(2));
        asked(11, "on(60, 1)", x -> x.on(60, 1));
        asked(11, "on(60, 11)", x -> x.on(60, 11));
        asked(12, "wakes()", LidsAndCombs::wakes);
        asked(13, "settles()", LidsAndCombs::settles);
        asked(14, "leader(60)", x -> x.leader(60));
        asked(15, "seats()", LidsAndCombs::seats);
        asked(16, "whoHush()", LidsAndCombs::whoHush);
        asked(17, "quick(1)", x -> x.quick(1));
        asked(18, "best(60)", x -> x.best(60));
        asked(20, "who()", LidsAndCombs::who);
        asked(21, "was(0, 0)", x -> x.was(0, 0));
        asked(21, "was(1, 1)", x -> x.was(1, 1));
        asked(22, "odds(30, 1)", x -> x.odds(30, 1));
        asked(23, "mean(60, 0)", x -> x.mean(60, 0));
        asked(25, "gone(0)", x -> x.gone(0));
        asked(25, "gone(1)", x -> x.gone(1));
        asked(27, "looked()", LidsAndCombs::looked);
        asked(32, "trace(1)", x -> x.trace(1));
        asked(33, "taken(1, 3)", x -> x.taken(1, 3));
        asked(34, "count(6)", x -> x.count(6));
    }

    private static void askedOfTapes() {
        asked(28, "judge(0, 0)", x -> x.judge(0, 0));
        asked(37, "read(0, 1)", x -> x.read(0, 1));
        holds(29, ASKED, () -> {
            LidsAndCombs x = full();
            x.pass(3);
            same("image()", x, () -> due("image()", x.image(), 3));
            same("asked behind an image", x, () -> {
                x.wakes();
                x.seats();
                x.was(1, 0);
                x.undo();
            });
        });
        holds(31, ASKED, () -> {
            LidsAndCombs x = pair(50);
            x.act(0, 0, 1);
            same("the same act again", x, () -> due("act(0, 0, 1)", x.act(0, 0, 1), 1));
        });
    }
}
