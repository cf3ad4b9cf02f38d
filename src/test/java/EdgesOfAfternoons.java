/** Promises 24 to 28, sentence by sentence: afternoons, books, rows of paces that are judged. */
final class EdgesOfAfternoons extends Edges {
    static void tell() {
        afternoon();
        gone();
        book();
        looked();
        judge();
        judgeEnds();
    }

    private static void afternoon() {
        holds(24, "AN AFTERNOON told by hand: what goes (0 a BEAT, 1 one is STILL, 2 one is not; 10 rows at most):", () -> {
            LidsAndCombs x = loud(9, 9);
            for (int r = 0; r < 10; r++) {
                due("row " + r, x.afternoon(r % 3, r % 2), r + 1);
                due("count(3)", x.count(3), r + 1);
            }
        });
        holds(24, "What goes comes to the AFTERNOON: how many there are (what -1: it is empty then, 0, whatever the other is).", () -> {
            due("nobody: empty", nobody().afternoon(-1, 0), 0);
            due("nobody: a beat goes", nobody().afternoon(0, 0), 1);
            due("a beat of none", nobody().afternoon(0, FAR_BELOW), 1);
            LidsAndCombs x = loud(9);
            due("empty from the first", x.afternoon(-1, -1), 0);
            due("the first", x.afternoon(1, 0), 1);
            due("the second", x.afternoon(2, 0), 2);
            due("the third", x.afternoon(0, 9), 3);
            due("empty, whatever", x.afternoon(-1, FAR_ABOVE), 0);
            due("count(3)", x.count(3), 0);
            due("the first again", x.afternoon(0, -1), 1);
        });
        holds(24, "NONE: what (0 .. 2), player (by 1, 2);", () -> {
            LidsAndCombs x = full();
            same("an afternoon of none", x, () -> {
                for (int what : new int[] {-2, 3, FAR_BELOW, FAR_ABOVE}) {
                    due("afternoon(" + what + ", 0)", x.afternoon(what, 0), -1);
                }
                for (int p : new int[] {-1, 3, 6, FAR_BELOW, FAR_ABOVE}) {
                    due("afternoon(1, " + p + ")", x.afternoon(1, p), -1);
                    due("afternoon(2, " + p + ")", x.afternoon(2, p), -1);
                }
            });
            due("a beat needs nobody", x.afternoon(0, 6), 3);
        });
        holds(24, "FULL: 10.", () -> {
            LidsAndCombs x = loud(5);
            for (int r = 0; r < 10; r++) {
                x.afternoon(0, 0);
            }
            due("an eleventh", x.afternoon(0, 0), -4);
            due("an eleventh by one", x.afternoon(1, 0), -4);
            due("count(3)", x.count(3), 10);
            due("ten beats go", x.gone(1), 10);
            due("nobody is still", x.gone(0), 5);
            due("empty", x.afternoon(-1, 0), 0);
            due("room again", x.afternoon(0, 0), 1);
        });
    }

    private static void gone() {
        holds(25, "GONE: NOISE; EARNED.", () -> {
            due("nobody: NOISE", nobody().gone(0), 0);
            due("nobody: EARNED", nobody().gone(1), 0);
            LidsAndCombs x = loud(10, 50);
            x.pass(1);
            due("an empty one: awake", x.gone(1), 0);
            x = with(loud(10, 20), "pay 1;softer 3 p=0");
            due("an empty one: NOISE", x.gone(0), 30);
            due("an empty one: EARNED", x.gone(1), 0);
            x.afternoon(1, 1);
            due("1 is still", x.gone(0), 10);
            x.afternoon(1, 1);
            x.afternoon(0, 0);
            due("a beat of 0 alone, softer by 3: NOISE", x.gone(0), 7);
            due("a beat of 0 alone: EARNED", x.gone(1), 10);
            x.afternoon(2, 1);
            x.afternoon(1, 0);
            due("1 alone", x.gone(0), 20);
            x.afternoon(0, 0);
            due("a beat of 1 alone", x.gone(1), 30);
            x.afternoon(2, 0);
            x.afternoon(2, 0);
            due("both", x.gone(0), 27);
            due("nobody is still", x.told(6), 0);
            due("BEAT", x.told(0), 0);
            due("EARNED", x.told(1), 0);
        });
        holds(25, "1 one is STILL, 2 one is not;", () -> {
            LidsAndCombs x = loud(1, 2, 4, 8, 16, 32);
            x.hush(5, true);
            x.afternoon(1, 0);
            x.afternoon(2, 5);
            due("0 is still, 5 is not", x.gone(0), 62);
            due("as it is", x.told(6), 32);
        });
        holds(25, "GONE: what 0 NOISE, 1 EARNED.", () -> {
            LidsAndCombs x = with(loud(30), "louder 1 p=0;pay 10");
            for (int r = 1; r <= 10; r++) {
                x.afternoon(0, 0);
                due(r + " beats: gone(0)", x.gone(0), 30 + r);
                due(r + " beats: gone(1)", x.gone(1), 3 * r);
            }
        });
        holds(25, "NONE.", () -> {
            for (int what : new int[] {-1, 2, FAR_BELOW, FAR_ABOVE}) {
                due("gone(" + what + ")", loud(9).gone(what), -1);
                due("nobody: gone(" + what + ")", nobody().gone(what), -1);
            }
        });
    }

    private static void book() {
        holds(26, "A BOOK told by hand: PLAYERS, PACES (1 .. 200; 8 at most):", () -> {
            LidsAndCombs x = paces(1, 200);
            for (int r = 0; r < 8; r++) {
                due("row " + r, x.book(r % 2, r % 2 == 0 ? 1 : 200), r + 1);
                due("count(4)", x.count(4), r + 1);
            }
            due("all of these are so", x.looked(), -5);
        });
        holds(26, "A row comes to the BOOK: how many there are (player -1: it is empty then, 0, whatever the other is).", () -> {
            due("nobody: empty", nobody().book(-1, 1), 0);
            LidsAndCombs x = paces(9);
            due("empty from the first", x.book(-1, 0), 0);
            due("the first", x.book(0, 9), 1);
            due("the second", x.book(0, 8), 2);
            due("empty, whatever", x.book(-1, FAR_ABOVE), 0);
            due("count(4)", x.count(4), 0);
            due("nothing to look at", x.looked(), -5);
            due("the first again", x.book(0, 9), 1);
        });
        holds(26, "NONE;", () -> {
            due("nobody: book(0, 1)", nobody().book(0, 1), -1);
            LidsAndCombs x = full();
            same("a book of none", x, () -> {
                for (int p : new int[] {-2, 3, 6, FAR_BELOW, FAR_ABOVE}) {
                    due("book(" + p + ", 1)", x.book(p, 1), -1);
                }
            });
        });
        holds(26, "BAD: pace;", () -> {
            LidsAndCombs x = full();
            same("a book of what is not as told", x, () -> {
                for (int pace : new int[] {0, -1, 201, FAR_BELOW, FAR_ABOVE}) {
                    due("book(1, " + pace + ")", x.book(1, pace), -2);
                }
            });
        });
        holds(26, "FULL: 8.", () -> {
            LidsAndCombs x = paces(9);
            for (int r = 0; r < 8; r++) {
                x.book(0, 9);
            }
            due("a ninth", x.book(0, 8), -4);
            due("count(4)", x.count(4), 8);
            due("the ninth is not there", x.looked(), -5);
            due("empty", x.book(-1, 0), 0);
            due("room again", x.book(0, 8), 1);
        });
    }

    private static void looked() {
        holds(27, "LOOKED at: the number of the first of these rows by which that PACE is otherwise now (-5: none).", () -> {
            due("nobody", nobody().looked(), -5);
            LidsAndCombs x = paces(9, 8, 7);
            due("no row", x.looked(), -5);
            x.book(2, 7);
            due("one row that is so", x.looked(), -5);
            x.book(0, 10);
            due("the second is otherwise", x.looked(), 1);
            x.book(1, 9);
            due("the second and the third are", x.looked(), 1);
            x.set(0, 2, 10);
            due("the third is", x.looked(), 2);
            x.set(2, 2, 6);
            due("the first is", x.looked(), 0);
            x.book(-1, 0);
            for (int r = 0; r < 7; r++) {
                x.book(1, 8);
            }
            x.book(1, 7);
            due("the last of eight", x.looked(), 7);
            x = pair(50);
            x.book(1, 52);
            due("not so now", x.looked(), 0);
            x.pass(1);
            due("so now", x.looked(), -5);
        });
        holds(27, "LOOKED at; -5.", () -> {
            LidsAndCombs x = paces(1, 200);
            x.book(1, 200);
            x.book(0, 1);
            due("the least and the most", x.looked(), -5);
        });
    }

    /** A tape of shorts of the numbers told. */
    private static LidsAndCombs shorts(LidsAndCombs x, int tape, int... numbers) {
        x.tape(tape, 1, numbers.length);
        for (int i = 0; i < numbers.length; i++) {
            x.item(tape, i, numbers[i]);
        }
        return x;
    }

    private static void judge() {
        holds(28, "PACES told by a row of shorts, from a place on, one by one, are JUDGED: the first that is otherwise;", () -> {
            LidsAndCombs x = shorts(paces(1, 2, 200), 0, 0, 1, 2, 200, 201);
            due("from 1 on all are so", x.judge(0, 1), -5);
            due("from 0 on the first is otherwise", x.judge(0, 0), 0);
            x.set(1, 2, 3);
            due("the second is otherwise", x.judge(0, 1), 1);
            x.set(2, 2, 199);
            due("the second and the third are", x.judge(0, 1), 1);
            x.set(1, 2, 2);
            due("the third is otherwise", x.judge(0, 1), 2);
            x = shorts(paces(1, 2, 3, 4, 5, 6), 5, 1, 2, 3, 4, 5, 7);
            due("the last of six is otherwise", x.judge(5, 0), 5);
            x.item(5, 5, 65536 + 6);
            due("a short's lowest bits are so", x.judge(5, 0), -5);
        });
        holds(28, "JUDGED from place i of a TAPE on.", () -> {
            LidsAndCombs x = paces(4, 5);
            x.tape(2, 1, 60);
            x.item(2, 58, 4);
            x.item(2, 59, 5);
            due("the last two of sixty", x.judge(2, 58), -5);
            due("the last one of sixty", x.judge(2, 59), 0);
            due("behind the last", x.judge(2, 60), 100);
            due("the first two of sixty", x.judge(2, 0), 0);
        });
        holds(28, "NONE: tape;", () -> {
            for (int tape : new int[] {-1, 6, FAR_BELOW, FAR_ABOVE}) {
                due("judge(" + tape + ", 0)", paces(1).judge(tape, 0), -1);
                due("nobody: judge(" + tape + ", 0)", nobody().judge(tape, 0), -1);
            }
        });
        holds(28, "CAST: it is no row of shorts.", () -> {
            for (int sort = 0; sort < 5; sort++) {
                LidsAndCombs x = paces(1);
                x.tape(3, sort, 1);
                x.item(3, 0, 1);
                due("of sort " + sort, x.judge(3, 0), sort == 1 ? -5 : -12);
                due("of sort " + sort + ", from beyond its end", x.judge(3, 1), sort == 1 ? 100 : -12);
                due("of sort " + sort + ", from below 0", x.judge(3, -1), sort == 1 ? 100 : -12);
                LidsAndCombs y = nobody();
                y.tape(3, sort, 1);
                due("nobody, of sort " + sort, y.judge(3, 0), sort == 1 ? -5 : -12);
            }
        });
    }

    private static void judgeEnds() {
        holds(28, "-5: none, or there is none to look at;", () -> {
            due("all of one", shorts(paces(7), 0, 7).judge(0, 0), -5);
            due("more items than players", shorts(paces(7), 0, 7, 8, 9).judge(0, 0), -5);
            due("nobody", shorts(nobody(), 0, 7).judge(0, 0), -5);
            due("nobody, an empty row", shorts(nobody(), 0).judge(0, 0), -5);
        });
        holds(28, "100 and how many were looked at, if the row ends ahead of that (or the place is below 0, or the TAPE holds nothing).",
            () -> {
                LidsAndCombs x = shorts(paces(1, 2, 3, 4, 5, 6), 0, 1, 2, 3, 4, 5);
                due("five looked at", x.judge(0, 0), 105);
                x.set(0, 2, 5);
                due("one looked at, from the last on", x.judge(0, 4), 101);
                due("from the end on", x.judge(0, 5), 100);
                due("from beyond the end on", x.judge(0, 6), 100);
                due("from far beyond", x.judge(0, FAR_ABOVE), 100);
                due("below 0", x.judge(0, -1), 100);
                due("far below 0", x.judge(0, FAR_BELOW), 100);
                due("otherwise ahead of the end", x.judge(0, 0), 0);
                due("holds nothing", x.judge(1, 0), 100);
                due("holds nothing, from 5 on", x.judge(1, 5), 100);
                x.tape(1, 1, 0);
                due("an empty row", x.judge(1, 0), 100);
                x.tape(0, -1, 0);
                due("holds nothing any more", x.judge(0, 0), 100);
            });
    }
}
