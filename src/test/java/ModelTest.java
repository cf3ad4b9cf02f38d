import java.util.Random;

/** Random runs of calls, all promises mixed, each answer beside the model's. */
public final class ModelTest {
    /** An object is promised for 512 calls; a run ends well ahead of that, as some steps make many calls. */
    private static final int RUNS = 600, CALLS = 330;

    private final Check check;
    private final Random random;
    private final LidsAndCombs x = new LidsAndCombs();
    private final Model model = new Model();
    private final String run;
    /** In every other run most are of kind 0 and not loud: it settles, and she does not wake at once. */
    private final boolean calm;
    private int calls = 0;

    private ModelTest(Check check, int seed) {
        this.check = check;
        random = new Random(seed);
        run = "run " + seed;
        calm = seed % 2 == 1;
    }

    public static void main(String[] args) {
        Check check = new Check("ModelTest");
        int from = args.length > 0 ? Integer.parseInt(args[0]) : 0;
        int runs = args.length > 1 ? Integer.parseInt(args[1]) : RUNS;
        for (int seed = from; seed < from + runs; seed++) {
            new ModelTest(check, seed).go();
        }
        check.end();
    }

    private void due(String call, long got, long want) {
        calls++;
        check.due(run + ", call " + calls + ", " + call, got, want);
        if (calls > 512) {
            throw new IllegalStateException(run + " has more calls than an object is promised for");
        }
    }

    private void go() {
        int players = random.nextInt(8);
        for (int p = 0; p < players; p++) {
            player();
        }
        if (random.nextInt(4) > 0) {
            kitchen();
        }
        while (calls < CALLS) {
            any();
            if (random.nextInt(30) == 0) {
                look();
            }
        }
    }

    /** Mostly 0 .. most, now and then just beside, or far off. */
    private int about(int least, int most) {
        switch (random.nextInt(30)) {
            case 0: return least - 1;
            case 1: return most + 1;
            case 2: return random.nextBoolean() ? Integer.MIN_VALUE : Integer.MAX_VALUE;
            case 3: return least;
            case 4: return most;
            default: return least + random.nextInt(most - least + 1);
        }
    }

    private int players() {
        return (int) model.count(0);
    }

    private int someone() {
        return about(0, Math.max(0, players() - 1));
    }

    private void player() {
        int kind = calm && random.nextInt(4) > 0 ? 0 : about(0, 6);
        int v = random.nextInt(40) == 0 ? about(0, 9) : random.nextInt(10);
        int seat = random.nextInt(40) == 0 ? about(0, 19) : random.nextInt(20);
        int loud = random.nextInt(40) == 0 ? about(0, 99) : random.nextInt(calm ? 15 : random.nextBoolean() ? 100 : 25);
        int pace = random.nextInt(40) == 0 ? about(1, 200) : 1 + random.nextInt(200);
        due("player(" + kind + ", " + v + ", " + seat + ", " + loud + ", " + pace + ")",
            x.player(kind, v, seat, loud, pace), model.player(kind, v, seat, loud, pace));
    }

    private String number() {
        int n = random.nextInt(random.nextBoolean() ? 10 : 100);
        return n < 10 && random.nextInt(5) == 0 ? "0" + n : "" + n;
    }

    private String either(int depth) {
        String t = both(depth);
        return random.nextInt(3) == 0 ? t + "|" + either(depth) : t;
    }

    private String both(int depth) {
        String f = part(depth);
        return random.nextInt(3) == 0 ? f + "&" + both(depth) : f;
    }

    private String part(int depth) {
        int deeper = depth < 5 ? random.nextInt(6) : 9;
        if (deeper == 0) {
            return "!" + part(depth + 1);
        }
        if (deeper == 1) {
            return "(" + either(depth + 1) + ")";
        }
        int letter = random.nextInt(6);
        String n = letter == 0 || letter == 1 ? "" + random.nextInt(7) : letter == 4 ? "" + random.nextInt(21) : "" + random.nextInt(10);
        return "pkvlcb".charAt(letter) + "" + "<=>".charAt(random.nextInt(3)) + (random.nextInt(6) == 0 ? number() : n);
    }

    private String clause() {
        switch (random.nextInt(7)) {
            case 0: return "step " + number();
            case 1: return "wake " + (random.nextBoolean() ? "99" : number());
            case 2: return "pay " + number();
            case 3: case 4: return "softer " + (random.nextBoolean() ? random.nextInt(9) : number()) + " " + either(0);
            default: return "louder " + (random.nextBoolean() ? random.nextInt(9) : number()) + " " + either(0);
        }
    }

    private void kitchen() {
        StringBuilder text = new StringBuilder(clause());
        int clauses = random.nextInt(10) == 0 ? 9 + random.nextInt(2) : random.nextInt(4);
        for (int c = 0; c < clauses; c++) {
            text.append(";").append(clauses > 4 ? "pay " + c : clause());
        }
        String signs = "louder softer step wake pay 0123456789!()&|<=>;pkvlcb x";
        char sign = signs.charAt(random.nextInt(signs.length()));
        switch (random.nextInt(10)) {
            case 0: text.setCharAt(random.nextInt(text.length()), sign); break;
            case 1: text.insert(random.nextInt(text.length() + 1), sign); break;
            case 2: text.setLength(random.nextInt(text.length() + 1)); break;
            case 3: text.deleteCharAt(random.nextInt(text.length())); break;
            default: break;
        }
        for (int k = 0; k < text.length() && k < 104; k++) {
            feed(text.charAt(k));
        }
        due("kitchen()", x.kitchen(), model.kitchen());
    }

    private void feed(int sign) {
        due("feed(" + sign + ")", x.feed(sign), model.feed(sign));
    }

    private void look() {
        for (int what = -1; what <= 7; what++) {
            due("told(" + what + ")", x.told(what), model.told(what));
            due("count(" + what + ")", x.count(what), model.count(what));
        }
        for (int p = 0; p < players(); p++) {
            for (int what = 3; what <= 10; what++) {
                due("of(" + p + ", " + what + ")", x.of(p, what), model.of(p, what));
            }
        }
    }

    private void any() {
        switch (random.nextInt(5)) {
            case 0: change(); break;
            case 1: tell(); break;
            case 2: rows(); break;
            default: ask(); break;
        }
    }

    private void change() {
        int p = someone();
        int what = about(0, 2);
        int n = what == 0 ? about(0, 19) : what == 1 ? about(0, 99) : about(1, 200);
        switch (random.nextInt(9)) {
            case 0: case 1: due("set(" + p + ", " + what + ", " + n + ")", x.set(p, what, n), model.set(p, what, n)); break;
            case 2: case 3:
                boolean is = random.nextInt(3) == 0;
                due("hush(" + p + ", " + is + ")", x.hush(p, is), model.hush(p, is));
                break;
            case 4:
                int part = about(0, 3);
                n = about(0, 9);
                due("row(" + p + ", " + part + ", " + n + ")", x.row(p, part, n), model.row(p, part, n));
                break;
            case 5:
                n = random.nextInt(3) == 0 ? about(0, 60) : random.nextInt(4);
                due("pass(" + n + ")", x.pass(n), model.pass(n));
                break;
            case 6:
                if (random.nextInt(3) == 0) {
                    due("image()", x.image(), model.image());
                }
                break;
            case 7:
                if (random.nextInt(4) == 0) {
                    due("undo()", x.undo(), model.undo());
                    due("judge(0, 0)", x.judge(0, 0), model.judge(0, 0));
                }
                break;
            default:
                if (random.nextInt(3) == 0) {
                    player();
                } else if (random.nextInt(6) == 0) {
                    kitchen();
                }
                break;
        }
    }

    private void tell() {
        int p = random.nextInt(9) == 0 ? -1 : someone();
        int pace = random.nextInt(3) == 0 ? about(1, 200) : Math.max(1, (int) model.on(random.nextInt(3), 10 + p));
        int n = random.nextInt(3) == 0 ? about(0, 8) : random.nextInt(3);
        switch (random.nextInt(3)) {
            case 0: due("see(" + p + ", " + pace + ", " + n + ")", x.see(p, pace, n), model.see(p, pace, n)); break;
            case 1: due("book(" + p + ", " + pace + ")", x.book(p, pace), model.book(p, pace)); break;
            default:
                int what = random.nextInt(12) == 0 ? -1 : random.nextInt(3) == 0 ? about(0, 2) : 0;
                due("afternoon(" + what + ", " + p + ")", x.afternoon(what, p), model.afternoon(what, p));
                break;
        }
    }

    private void rows() {
        int tape = about(0, 5);
        int i = random.nextInt(3) == 0 ? about(0, 60) : random.nextInt(6);
        switch (random.nextInt(6)) {
            case 0:
                int sort = random.nextInt(3) == 0 ? about(-1, 4) : 1;
                int n = random.nextInt(3) == 0 ? about(0, 60) : random.nextInt(12);
                due("tape(" + tape + ", " + sort + ", " + n + ")", x.tape(tape, sort, n), model.tape(tape, sort, n));
                break;
            case 1: case 2:
                long v = random.nextInt(3) == 0 ? random.nextLong() >> random.nextInt(64) : model.of(random.nextInt(6), 4);
                due("item(" + tape + ", " + i + ", " + v + ")", x.item(tape, i, v), model.item(tape, i, v));
                break;
            case 3: due("read(" + tape + ", " + i + ")", x.read(tape, i), model.read(tape, i)); break;
            case 4:
                int other = random.nextInt(4) == 0 ? tape : about(0, 5);
                int j = random.nextInt(4) == 0 ? about(0, 60) : random.nextInt(6);
                n = random.nextInt(4) == 0 ? about(0, 60) : random.nextInt(6);
                due("shift(" + tape + ", " + i + ", " + other + ", " + j + ", " + n + ")",
                    x.shift(tape, i, other, j, n), model.shift(tape, i, other, j, n));
                break;
            default:
                for (int p = 0; p < players(); p++) {
                    if (random.nextInt(9) > 0) {
                        v = model.of(p, 4);
                        due("item(" + tape + ", " + (i + p) + ", " + v + ")", x.item(tape, i + p, v), model.item(tape, i + p, v));
                    }
                }
                due("judge(" + tape + ", " + i + ")", x.judge(tape, i), model.judge(tape, i));
                break;
        }
    }

    private void ask() {
        int p = someone();
        int n = random.nextInt(3) == 0 ? about(0, 60) : random.nextInt(12);
        int part = about(0, 1);
        switch (random.nextInt(18)) {
            case 0: case 1:
                int what = random.nextInt(3) == 0 ? about(0, 26) : 10 * random.nextInt(3) + random.nextInt(6);
                due("on(" + n + ", " + what + ")", x.on(n, what), model.on(n, what));
                break;
            case 2: due("wakes()", x.wakes(), model.wakes()); break;
            case 3: due("settles()", x.settles(), model.settles()); break;
            case 4: due("leader(" + n + ")", x.leader(n), model.leader(n)); break;
            case 5: due("seats()", x.seats(), model.seats()); break;
            case 6: due("whoHush()", x.whoHush(), model.whoHush()); break;
            case 7: due("quick(" + p + ")", x.quick(p), model.quick(p)); break;
            case 8: due("best(" + n + ")", x.best(n), model.best(n)); break;
            case 9: due("who()", x.who(), model.who()); break;
            case 10: due("was(" + p + ", " + part + ")", x.was(p, part), model.was(p, part)); break;
            case 11: due("odds(" + n + ", " + part + ")", x.odds(n, part), model.odds(n, part)); break;
            case 12: due("mean(" + n + ", " + part + ")", x.mean(n, part), model.mean(n, part)); break;
            case 13: due("gone(" + part + ")", x.gone(part), model.gone(part)); break;
            case 14: due("looked()", x.looked(), model.looked()); break;
            case 15:
                int k = about(0, 6);
                due("taken(" + p + ", " + k + ")", x.taken(p, k), model.taken(p, k));
                break;
            default:
                int act = about(0, 2);
                int y = random.nextBoolean() ? random.nextInt(20) - 5 : random.nextInt();
                due("act(" + p + ", " + act + ", " + y + ")", x.act(p, act, y), model.act(p, act, y));
                for (int t = random.nextInt(12) - 1; t < 13; t += 4) {
                    due("trace(" + t + ")", x.trace(t), model.trace(t));
                }
                break;
        }
    }
}
