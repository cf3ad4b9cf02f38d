/** Promises 7 to 9: the text, kitchens and their faults, what is told. */
public final class KitchensTest {
    private static final Check CHECK = new Check("KitchensTest");

    public static void main(String[] args) {
        feed();
        faults();
        clauses();
        behindFaults();
        full();
        conditions();
        letters();
        told();
        CHECK.end();
    }

    private static void due(String call, long got, long want) {
        CHECK.due(call, got, want);
    }

    private static void feed() {
        LidsAndCombs x = new LidsAndCombs();
        due("feed(-1)", x.feed(-1), -2);
        due("feed(128)", x.feed(128), -2);
        due("feed(0)", x.feed(0), 1);
        due("feed(127)", x.feed(127), 2);
        for (int n = 3; n <= 100; n++) {
            due("feed, the " + n + "th", x.feed('p'), n);
        }
        due("feed, the 101st", x.feed('p'), -4);
        due("a bad 101st", x.feed(128), -2);
        due("count(5)", x.count(5), 100);
        due("kitchen()", x.kitchen(), -10);
        due("count(5) behind", x.count(5), 0);
        due("feed behind", x.feed('p'), 1);
    }

    private static void fault(String text, int place) {
        LidsAndCombs x = new LidsAndCombs();
        due("\"" + text + "\"", Check.kitchen(x, text), -10 - place);
        due("\"" + text + "\": kitchens", x.count(1), 0);
        due("\"" + text + "\": the text", x.count(5), 0);
        due("\"" + text + "\": step", x.told(3), 2);
    }

    private static void faults() {
        fault("", 0);
        fault("x", 0);
        fault(" step 1", 0);
        fault("Step 1", 0);
        fault("s", 1);
        fault("sx", 1);
        fault("sofx", 3);
        fault("stop 1", 2);
        fault("step", 4);
        fault("step;", 4);
        fault("step ", 5);
        fault("step  1", 5);
        fault("step -1", 5);
        fault("ste 1", 3);
        fault("loud 1 p=1", 4);
        fault("step 123", 7);
        fault("step 12 ", 7);
        fault("step 1;", 7);
        fault("step 1;;", 7);
        fault("step 1; wake 2", 7);
        fault("step 1 p=1", 6);
        fault("wakes 1", 4);
        fault("pax 1", 2);
        fault("louder 1", 8);
        fault("louder 1;", 8);
        fault("louder 12 ", 10);
        fault("louder 1  p=1", 9);
        fault("louder 1 q=1", 9);
        fault("louder 1 p", 10);
        fault("louder 1 p!1", 10);
        fault("louder 1 p=", 11);
        fault("louder 1 p=x", 11);
        fault("louder 1 p=123", 13);
        fault("louder 1 p=1 ", 12);
        fault("louder 1 p=1&", 13);
        fault("louder 1 p=1&&", 13);
        fault("louder 1 p=1|", 13);
        fault("louder 1 p=1)", 12);
        fault("louder 1 p=1p", 12);
        fault("louder 1 ()", 10);
        fault("louder 1 (p=1", 13);
        fault("louder 1 (p=1;", 13);
        fault("louder 1 !", 10);
        fault("louder 1 !;", 10);
        fault("louder 1 ((((p=1))))&(((((p=1)))))", 25);
        fault("louder 1 !!!!!p=1", 13);
        fault("louder 1 !(!(!p=1))", 13);
        fault("softer 1 (!(p=1&!(p=1)))", 17);
        fault("step 1;step 2;step 3;step 4;step 5;step 6;step 7;step 8;step 9;step 0;step 1", 69);
        fault("step 1;step 2;step 3;step 4;step 5;step 6;step 7;step 8;step 9;step 0;", 69);
    }

    private static void clauses() {
        LidsAndCombs x = new LidsAndCombs();
        due("ten clauses", Check.kitchen(x, "step 1;step 2;step 3;step 4;step 5;step 6;step 7;step 8;step 9;step 0"), 0);
        due("the last step", x.told(3), 0);
        due("four deep", Check.kitchen(x, "louder 1 !(!(p=1))&((((p=1))))|!!!!p=1;wake 07;pay 1;pay 42"), 1);
        due("step without", x.told(3), 2);
        due("wake 07", x.told(4), 7);
        due("the last pay", x.told(5), 42);
        due("a fault", Check.kitchen(x, "step 9;"), -17);
        due("the one that held holds", x.told(5), 42);
        due("kitchens", x.count(1), 2);
        due("pay 0", Check.kitchen(x, "pay 0;wake 0;step 00"), 2);
        due("pay is 1 if less", x.told(5), 1);
        due("wake 0", x.told(4), 0);
        due("step 00", x.told(3), 0);
        String longest = "step 1;louder 2 p=0|p=0|p=0|p=0|p=0|p=0|p=0|p=0|p=0|p=0|p=0|p=0|p=0|p=0|p=0|p=0|p=0|p=0|p=0|p=1|p=00";
        due("its length", longest.length(), 100);
        due("a hundred signs", Check.kitchen(x, longest), 3);
        due("a hundred, too short", Check.kitchen(x, longest.substring(0, 99) + "|"), -10 - 100);
    }

    private static void behindFaults() {
        LidsAndCombs x = new LidsAndCombs();
        x.player(0, 0, 0, 0, 1);
        for (int n = 0; n < 12; n++) {
            Check.kitchen(x, "louder 5 p=0|p=0|p=0;step 9;wake 9;pay 9;softer 1 p=0&p=0|(p=0|p=0&!p=0)x");
        }
        due("a fault holds nothing: MORE", x.of(0, 10), 0);
        due("a fault holds nothing: STEP", x.told(3), 2);
        due("a kitchen behind faults", Check.kitchen(x, "louder 3 p=0|p=1;louder 4 p<1&p<2"), 0);
        long[] want = {0, 0, 0, 2, 60, 5};
        for (int what = 0; what < want.length; what++) {
            due("behind faults: told(" + what + ")", x.told(what), want[what]);
        }
        due("behind faults: MORE", x.of(0, 10), 7);
    }

    private static void full() {
        LidsAndCombs x = new LidsAndCombs();
        for (int k = 0; k < 6; k++) {
            due("kitchen " + k, Check.kitchen(x, "step " + k), k);
            due("step of " + k, x.told(3), k);
        }
        Check.feed(x, "step 99");
        due("a seventh", x.kitchen(), -4);
        due("the text stays", x.count(5), 7);
        due("the sixth holds", x.told(3), 5);
        due("nothing more", x.count(1), 6);
        due("a bad seventh", Check.kitchen(x, "x"), -4);
        due("the text stays longer", x.count(5), 8);
    }

    private static long more(String text, int player) {
        LidsAndCombs x = PlayersTest.six();
        due("\"" + text + "\"", Check.kitchen(x, text), 0);
        return x.of(player, 10);
    }

    private static void conditions() {
        due("=", more("louder 7 p=2", 2), 7);
        due("= of another", more("louder 7 p=2", 1), 0);
        due("<", more("louder 7 p<2", 1), 7);
        due("< at its edge", more("louder 7 p<2", 2), 0);
        due(">", more("louder 7 p>2", 3), 7);
        due("> at its edge", more("louder 7 p>2", 2), 0);
        due("softer", more("softer 7 p=2", 2), -7);
        due("all together", more("louder 50 p=2;softer 7 p>1;louder 2 p<3;softer 99 p=1", 2), 45);
        due("& and | : the first", more("louder 1 p=2|p=1&p=0", 2), 1);
        due("& and | : the last", more("louder 1 p=1&p=0|p=2", 2), 1);
        due("( over &", more("louder 1 (p=2|p=1)&p=0", 2), 0);
        due("& over (", more("louder 1 p=2&(p=1|v=5)", 2), 1);
        due("! of one test", more("louder 1 !p=2|p=2", 2), 1);
        due("! of one test, &", more("louder 1 !p=1&p=1", 1), 0);
        due("! of one test, not of both", more("louder 1 !p=2&p=1", 1), 1);
        due("! of (", more("louder 1 !(p=2&p=1)", 2), 1);
        due("! of ( both", more("louder 1 !(p=2|p=1)", 2), 0);
        due("!!", more("louder 1 !!p=2", 2), 1);
        due("many &", more("louder 1 p=2&v=5&k=2&p<3", 2), 1);
        due("many &, one not", more("louder 1 p=2&v=5&k=3&p<3", 2), 0);
        due("many |", more("louder 1 p=5|p=4|p=2|p=3", 2), 1);
        due("many |, none", more("louder 1 p=5|p=4|p=1|p=3", 2), 0);
        due("deep", more("louder 9 (p=5|(p=2&(p=4|(p=2&p<3))))", 2), 9);
        due("deep, not so", more("louder 9 (p=5|(p=2&(p=4|(p=2&p<2))))", 2), 0);
    }

    private static void letters() {
        LidsAndCombs x = PlayersTest.six();
        x.set(2, 1, 39);
        x.set(2, 2, 199);
        Check.kitchen(x, "louder 1 k=2;louder 2 v=5;louder 4 l=3;louder 8 c=19;louder 16 b=0;louder 32 p=2");
        due("all letters of 2", x.of(2, 10), 63);
        due("all letters of 3", x.of(3, 10), 16);
        x.set(2, 1, 40);
        x.set(2, 2, 200);
        due("loud and pace by 10, cut", x.of(2, 10), 63 - 4 - 8);
        x.set(3, 1, 29);
        due("of 29 loud", x.of(3, 10), 16);
        x.pass(9);
        due("b at beat 9", x.of(5, 10) & 16, 0);
        x.pass(1);
        due("b at beat 10", x.of(5, 10) & 16, 16);
    }

    private static void told() {
        LidsAndCombs x = PlayersTest.six();
        Check.kitchen(x, "step 3;wake 99;pay 9");
        x.hush(1, true);
        x.hush(4, true);
        long[] want = {0, 0, 50 + 30 + 20 + 25, 3, 99, 9, 18};
        for (int what = 0; what < want.length; what++) {
            due("told(" + what + ")", x.told(what), want[what]);
        }
        due("told(-1)", x.told(-1), -1);
        due("told(7)", x.told(7), -1);
        x.pass(7);
        due("told(0) behind 7 beats", x.told(0), 7);
    }
}
