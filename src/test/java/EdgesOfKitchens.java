/** Promises 7 to 9, sentence by sentence: the text, kitchens and their faults, what is told. */
final class EdgesOfKitchens extends Edges {
    private static final String TEN = "step 1;step 2;step 3;step 4;step 5;step 6;step 7;step 8;step 9;step 0";

    static void tell() {
        feed();
        kitchen();
        grammar();
        tests();
        depth();
        faults();
        clauses();
        told();
    }

    private static void feed() {
        holds(7, "A sign (0 .. 127) comes behind THE TEXT's: how many it has.", () -> {
            LidsAndCombs x = new LidsAndCombs();
            due("feed(0)", x.feed(0), 1);
            due("feed(127)", x.feed(127), 2);
            due("feed(1)", x.feed(1), 3);
            due("count(5)", x.count(5), 3);
            x = new LidsAndCombs();
            due("in their order", with(x, "step 12").told(3), 12);
        });
        holds(7, "BAD;", () -> {
            LidsAndCombs x = full();
            same("feed of no sign", x, () -> {
                for (int sign : new int[] {-1, 128, 129, 256 + 's', FAR_BELOW, FAR_ABOVE}) {
                    due("feed(" + sign + ")", x.feed(sign), -2);
                }
            });
            x.feed('8');
            due("the text as it was: kitchen()", x.kitchen(), 1);
            due("told(3)", x.told(3), 8);
        });
        holds(7, "THE TEXT (bytes, 100 at most)", () -> {
            LidsAndCombs x = new LidsAndCombs();
            for (int n = 1; n <= 100; n++) {
                due("the " + n + "th", x.feed('x'), n);
            }
        });
        holds(7, "FULL.", () -> {
            LidsAndCombs x = new LidsAndCombs();
            String longest = "louder 1 p=0" + "|p=0".repeat(20) + ";step 7";
            due("99 signs", Check.feed(x, longest), 99);
            due("the 100th", x.feed('7'), 100);
            due("the 101st", x.feed('7'), -4);
            due("the 102nd", x.feed(0), -4);
            due("count(5)", x.count(5), 100);
            due("kitchen()", x.kitchen(), 0);
            due("told(3)", x.told(3), 77);
            due("room again", x.feed('7'), 1);
        });
    }

    private static void kitchen() {
        holds(8, "THE TEXT, which is empty then, is a KITCHEN, and holds: its number.", () -> {
            LidsAndCombs x = new LidsAndCombs();
            for (int k = 0; k < 6; k++) {
                due("kitchen " + k, Check.kitchen(x, "step 1" + k), k);
                due("it holds", x.told(3), 10 + k);
                due("the text", x.count(5), 0);
                due("kitchens", x.count(1), k + 1);
            }
            due("feed behind", x.feed('s'), 1);
        });
        holds(8, "The newest KITCHEN holds (6 at most);", () -> {
            LidsAndCombs x = new LidsAndCombs();
            Check.kitchen(x, "step 9;wake 8;pay 7;louder 1 p=0");
            Check.kitchen(x, "step 3");
            x.player(0, 0, 0, 0, 1);
            int[] want = {3, 60, 5};
            for (int what = 3; what <= 5; what++) {
                due("told(" + what + ")", x.told(what), want[what - 3]);
            }
            due("MORE", x.of(0, 10), 0);
        });
        holds(8, "without one there are no CLAUSES.", () -> {
            LidsAndCombs x = loud(10);
            due("MORE", x.of(0, 10), 0);
            x.pass(1);
            due("LOUD behind a beat", x.of(0, 3), 10);
        });
        holds(8, "FULL: there are 6 (THE TEXT stays);", () -> {
            LidsAndCombs x = new LidsAndCombs();
            for (int k = 0; k < 6; k++) {
                Check.kitchen(x, "step 1");
            }
            due("an empty text", x.kitchen(), -4);
            Check.feed(x, "step 2");
            due("a kitchen", x.kitchen(), -4);
            due("the text stays", x.count(5), 6);
            due("the sixth holds", x.told(3), 1);
            due("one that is none", Check.kitchen(x, "x"), -4);
            due("the text stays", x.count(5), 7);
            due("count(1)", x.count(1), 6);
        });
        holds(8, "-10 less the FAULT (the one that held holds).", () -> {
            LidsAndCombs x = new LidsAndCombs();
            due("an empty text", x.kitchen(), -10);
            due("a fault at 5, none holds", Check.kitchen(x, "step x"), -15);
            due("told(3)", x.told(3), 2);
            Check.kitchen(x, "step 9;wake 8;pay 7");
            due("a fault behind three clauses", Check.kitchen(x, "step 1;wake 2;pay 3;x"), -30);
            due("told(3)", x.told(3), 9);
            due("told(4)", x.told(4), 8);
            due("told(5)", x.told(5), 7);
            due("count(1)", x.count(1), 1);
            due("a fault at 100", Check.kitchen(x, "louder 11 p=0" + "&p=0".repeat(21) + "&p="), -110);
        });
        holds(8, "without one there are no CLAUSES.", () -> {
            LidsAndCombs x = loud(10, 10);
            for (int n = 0; n < 3; n++) {
                due("a fault", Check.kitchen(x, "step 9;wake 9;pay 9;louder 5 p=0" + "|p=0".repeat(16) + "?"), -106);
            }
            for (int n = 0; n < 2; n++) {
                due("a fault", Check.kitchen(x, "louder 5 p=0;softer 2 p=1&p=1|p=0;louder 3 p=0?"), -56);
            }
            due("MORE behind faults alone", x.of(0, 10), 0);
            told(x, 2, 60, 5);
            due("a kitchen behind faults", Check.kitchen(x, "louder 4 p=1"), 0);
            due("MORE of 0, by its clauses alone", x.of(0, 10), 0);
            due("MORE of 1, by its clauses alone", x.of(1, 10), 4);
            told(x, 2, 60, 5);
        });
    }

    private static void good(String text) {
        LidsAndCombs x = new LidsAndCombs();
        due("\"" + text + "\"", Check.kitchen(x, text), 0);
    }

    private static void fault(String text, int place) {
        LidsAndCombs x = new LidsAndCombs();
        due("\"" + text + "\"", Check.kitchen(x, text), -10 - place);
        due("\"" + text + "\": kitchens", x.count(1), 0);
        due("\"" + text + "\": the text", x.count(5), 0);
    }

    private static void grammar() {
        holds(8, "A KITCHEN is read from THE TEXT (bytes, 100 at most): CLAUSES, 1 to 10, with ; between:", () -> {
            fault("", 0);
            fault(";", 0);
            fault(";step 1", 0);
            good("step 1");
            fault("step 1;", 7);
            fault("step 1;;step 1", 7);
            fault("step 1 ;step 1", 6);
            fault("step 1; step 1", 7);
            fault("step 1,step 1", 6);
            good(TEN);
            fault(TEN + ";", TEN.length());
            fault(TEN + ";step 1", TEN.length());
            good("louder 1 p=0" + "|p=0".repeat(20) + ";step 77");
        });
        holds(8, "louder n E; softer n E; step n; wake n; pay n (one blank ahead of each part behind the word; n 1 or 2 digits).",
            () -> {
                String[] words = {"louder", "softer", "step", "wake", "pay"};
                for (String word : words) {
                    String e = word.length() == 6 ? " p=0" : "";
                    int behind = word.length();
                    good(word + " 0" + e);
                    good(word + " 00" + e);
                    good(word + " 9" + e);
                    good(word + " 99" + e);
                    fault(word, behind);
                    fault(word + "1" + e, behind);
                    fault(word + " ", behind + 1);
                    fault(word + "  1" + e, behind + 1);
                    fault(word + " x" + e, behind + 1);
                    fault(word + " -1" + e, behind + 1);
                    fault(word + " 100" + e, behind + 3);
                    fault(word + " 000" + e, behind + 3);
                    for (int k = 0; k < behind; k++) {
                        fault(word.substring(0, k) + "?", k);
                        fault(word.substring(0, k), k);
                        fault(word.substring(0, k) + " 1" + e, k);
                    }
                }
                fault("louder 1", 8);
                fault("louder 1 ", 9);
                fault("louder 12p=0", 9);
                fault("louder 1  p=0", 9);
                fault("softer 1p=0", 8);
                fault("step 1 p=0", 6);
                fault("wake 1 ", 6);
                fault("Louder 1 p=0", 0);
            });
        holds(8, "E: T or T|E.", () -> {
            good("louder 1 p=0|p=1|p=2");
            fault("louder 1 |p=0", 9);
            fault("louder 1 p=0|", 13);
            fault("louder 1 p=0||p=1", 13);
            fault("louder 1 p=0 |p=1", 12);
            due("the first T", more("p=0|p=1|p=2", 0), 1);
            due("the last T", more("p=0|p=1|p=2", 2), 1);
            due("no T", more("p=0|p=1|p=2", 3), 0);
        });
        holds(8, "T: F or F&T.", () -> {
            good("louder 1 p=0&p=1&p=2");
            fault("louder 1 &p=0", 9);
            fault("louder 1 p=0&", 13);
            fault("louder 1 p=0&|p=1", 13);
            due("each F", more("p>0&p<3&p=2", 2), 1);
            due("not the first F", more("p>2&p<3&p=2", 2), 0);
            due("not the last F", more("p>0&p<3&p=1", 2), 0);
            due("& ahead of |, from the left", more("p=1|p=2&p=3", 1), 1);
            due("& ahead of |, from the right", more("p=3&p=2|p=1", 1), 1);
        });
    }

    /** What is louder by 1 if the condition holds of the player. */
    private static int more(String condition, int player) {
        return with(loud(0, 0, 0, 0, 0, 0), "louder 1 " + condition).of(player, 10);
    }

    private static void tests() {
        holds(8, "F: !F, (E), or a TEST: a letter, < or = or >, a number (1 or 2 digits):", () -> {
            due("! turns it", more("!p=1", 1), 0);
            due("! turns the next F alone", more("!p=2&p=2|p=1", 1), 1);
            due("!! turns it twice", more("!!p=1", 1), 1);
            due("( ) hold together", more("(p=1|p=2)&p=2", 1), 0);
            due("!( ) turns all within", more("!(p=1|p=2)", 2), 0);
            for (int p = 0; p < 3; p++) {
                due("p<1 of " + p, more("p<1", p), p < 1 ? 1 : 0);
                due("p=1 of " + p, more("p=1", p), p == 1 ? 1 : 0);
                due("p>1 of " + p, more("p>1", p), p > 1 ? 1 : 0);
            }
            good("louder 1 p=0");
            good("louder 1 p=99");
            due("p=01", more("p=01", 1), 1);
            due("p<10", more("p<10", 5), 1);
            fault("louder 1 p=100", 13);
            fault("louder 1 p=", 11);
            fault("louder 1 p=-1", 11);
            fault("louder 1 p", 10);
            fault("louder 1 p!0", 10);
            fault("louder 1 p==0", 11);
            fault("louder 1 p<=0", 11);
            fault("louder 1 p =0", 10);
            fault("louder 1 0=p", 9);
            fault("louder 1 ()", 10);
            fault("louder 1 (p=0", 13);
            fault("louder 1 (p=0;", 13);
            fault("louder 1 p=0)", 12);
            fault("louder 1 !", 10);
            fault("louder 1 p=0!", 12);
        });
        holds(8, "of a PLAYER p its number, k its KIND, v its v, l LOUD by 10 (cut), c PACE by 10 (cut), b BEAT modulo 10.", () -> {
            letters();
            for (int letter = 0; letter < 128; letter++) {
                boolean isLetter = "pkvlcb".indexOf(letter) >= 0;
                boolean opens = letter == '(' || letter == '!';
                due("the letter " + letter, Check.kitchen(nobody(), "louder 1 " + (char) letter + "=0"),
                    isLetter ? 0 : opens ? -20 : -19);
            }
        });
    }

    private static void letters() {
        LidsAndCombs x = new LidsAndCombs();
        for (int kind = 0; kind < 6; kind++) {
            x.player(kind + 1, 9 - kind, 0, 0, 1);
        }
        for (int p = 0; p < 6; p++) {
            x.set(p, 1, 0);
            Check.kitchen(x, "louder 1 p=" + p + ";louder 2 k=" + (p + 1) + ";louder 4 v=" + (9 - p));
            due("number, kind and v of " + p, x.of(p, 10), 7);
            due("of another", x.of((p + 1) % 6, 10), 0);
        }
        LidsAndCombs y = with(loud(0), "louder 1 l=0;louder 2 l=1;louder 4 l=9;louder 8 c=0;louder 16 c=1;louder 32 c=20");
        int[][] tens = {{0, 1}, {9, 1}, {10, 2}, {19, 2}, {20, 0}, {89, 0}, {90, 4}, {99, 4}};
        int[][] paces = {{1, 8}, {9, 8}, {10, 16}, {19, 16}, {20, 0}, {199, 0}, {200, 32}};
        y.set(0, 2, 50);
        for (int[] t : tens) {
            y.set(0, 1, t[0]);
            due("l of " + t[0] + " loud", y.of(0, 10), t[1]);
        }
        y.set(0, 1, 50);
        for (int[] t : paces) {
            y.set(0, 2, t[0]);
            due("c of pace " + t[0], y.of(0, 10), t[1]);
        }
        LidsAndCombs z = with(loud(0), "louder 1 b=0;louder 2 b=9;louder 4 b>9");
        for (int beat = 0; beat <= 21; beat++) {
            due("b at beat " + beat, z.of(0, 10), beat % 10 == 0 ? 1 : beat % 10 == 9 ? 2 : 0);
            z.pass(1);
        }
    }

    private static void depth() {
        holds(8, "A ( or ! within 4 others is none.", () -> {
            good("louder 1 ((((p=0))))");
            good("louder 1 !!!!p=0");
            good("louder 1 !(!(p=0))");
            good("louder 1 (!(!p=0))");
            good("louder 1 ((((p=0))))&!!!!p=0|((((p=0))))");
            good("louder 1 ((!p=0&(p=0|!p=1)))");
            good("louder 1 ((((p=0))));softer 1 !!!!p=0");
            fault("louder 1 (((((p=0)))))", 13);
            fault("louder 1 !!!!!p=0", 13);
            fault("louder 1 ((((!p=0))))", 13);
            fault("louder 1 !!!!(p=0)", 13);
            fault("louder 1 (!(!(p=0)))", 13);
            fault("louder 1 ((((p=0&(p=0)))))", 17);
            fault("louder 1 ((((p=0))))|!!!!!p=0", 25);
            fault("louder 1 p=0;softer 1 (((((p=0)))))", 26);
        });
    }

    private static void faults() {
        holds(8, "The FAULT: the place of the first byte with which none begins so (the end of THE TEXT, if it ends too early).", () -> {
            for (int sign = 0; sign < 128; sign++) {
                boolean begins = "lswp".indexOf(sign) >= 0;
                due("the byte " + sign + " alone", Check.kitchen(nobody(), "" + (char) sign), begins ? -11 : -10);
                boolean goesOn = sign == ';' || sign >= '0' && sign <= '9';
                int behind = Check.kitchen(nobody(), "step 1" + (char) sign);
                due("the byte " + sign + " behind a clause", behind, sign == ';' ? -17 : goesOn ? 0 : -16);
            }
            fault("s", 1);
            fault("st", 2);
            fault("so", 2);
            fault("sa", 1);
            fault("stop 1", 2);
            fault("softes 1 p=0", 5);
            fault("x" + "step 1;".repeat(13), 0);
            fault("louder 1 p=0" + "|p=0".repeat(21) + "|p=x", 99);
            fault("louder 1 p=0" + "|p=0".repeat(21) + "|p=0".substring(0, 3), 99);
            fault("louder 11 p=0" + "|p=0".repeat(21) + "|p=", 100);
            fault("louder 1 p=0\nstep 1", 12);
        });
    }

    private static void clauses() {
        holds(8, "STEP (2 without), WAKE (60 without), PAY (5 without; 1 if less): the last one's n.", () -> {
            LidsAndCombs x = new LidsAndCombs();
            told(x, 2, 60, 5);
            told(with(x, "louder 9 p=0"), 2, 60, 5);
            told(with(x, "step 0;wake 0;pay 0"), 0, 0, 1);
            told(with(x, "step 1;wake 1;pay 1"), 1, 1, 1);
            told(with(x, "step 99;wake 99;pay 99"), 99, 99, 99);
            told(with(x, "pay 8;step 5;wake 7;pay 2;step 3;wake 4;pay 00"), 3, 4, 1);
            LidsAndCombs y = new LidsAndCombs();
            told(with(y, "wake 9"), 2, 9, 5);
            told(with(y, "pay 9"), 2, 60, 9);
            told(with(y, "step 9"), 9, 60, 5);
            told(with(y, "pay 0;pay 3"), 2, 60, 3);
        });
    }

    private static void told(LidsAndCombs x, int step, int wake, int pay) {
        due("step", x.told(3), step);
        due("wake", x.told(4), wake);
        due("pay", x.told(5), pay);
    }

    private static void told() {
        holds(9, "What 0 BEAT, 1 EARNED, 2 NOISE, 3 STEP, 4 WAKE, 5 PAY, 6 who is STILL (bits).", () -> {
            LidsAndCombs x = with(loud(10, 20, 30, 40, 50, 60), "step 0;wake 99;pay 7");
            x.hush(2, true);
            x.hush(3, true);
            x.hush(4, true);
            x.hush(5, true);
            x.set(1, 1, 10);
            x.pass(3);
            int[] want = {3, 6, 20, 0, 99, 7, 60};
            for (int what = 0; what < want.length; what++) {
                due("told(" + what + ")", x.told(what), want[what]);
            }
        });
        holds(9, "NONE.", () -> {
            LidsAndCombs x = full();
            for (int what : new int[] {-1, 7, 8, FAR_BELOW, FAR_ABOVE}) {
                due("nobody: told(" + what + ")", nobody().told(what), -1);
                due("told(" + what + ")", x.told(what), -1);
            }
        });
    }
}
