import java.util.ArrayList;
import java.util.HashSet;
import java.util.List;
import java.util.Set;
import java.util.function.Predicate;
import java.util.function.ToIntFunction;

/**
 * The document once more, written another way and without care for speed or room: kinds are Java classes,
 * what is asked goes on in a copy of all, a FAULT is found by all that a kitchen could go on with.
 */
final class Model {
    private World now = new World();
    private World image = null;
    private final List<Object> kitchens = new ArrayList<>();
    private String text = "";
    private final List<Integer> trace = new ArrayList<>();
    private final long[][] tapes = new long[6][];
    private final int[] sorts = {-1, -1, -1, -1, -1, -1};

    // ---- the world

    private static final class World {
        List<Player> players = new ArrayList<>();
        int beat = 0;
        int earned = 0;
        String kitchen = "";
        List<int[]> seen = new ArrayList<>();
        List<int[]> afternoon = new ArrayList<>();
        List<int[]> book = new ArrayList<>();

        World copy() {
            World other = new World();
            for (Player p : players) {
                other.players.add(p.copyInto(other));
            }
            other.beat = beat;
            other.earned = earned;
            other.kitchen = kitchen;
            other.seen.addAll(seen);
            other.afternoon.addAll(afternoon);
            other.book.addAll(book);
            return other;
        }

        boolean has(long p) {
            return p >= 0 && p < players.size();
        }

        int noise() {
            return players.stream().mapToInt(Player::sound).sum();
        }

        int last(String word, int without) {
            int n = without;
            for (String clause : kitchen.split(";")) {
                if (clause.startsWith(word + " ")) {
                    n = Integer.parseInt(clause.substring(word.length() + 1));
                }
            }
            return n;
        }

        int step() {
            return last("step", 2);
        }

        int wake() {
            return last("wake", 60);
        }

        int pay() {
            return Math.max(1, last("pay", 5));
        }

        World next() {
            World next = copy();
            int noise = noise();
            next.earned = noise < wake() ? earned + noise / pay() : earned - 10;
            next.earned = Math.min(99999, Math.max(0, next.earned));
            for (Player old : players) {
                Player p = next.players.get(old.i);
                if (old.pace < old.goal()) {
                    p.pace = Math.min(200, Math.min(old.goal(), old.pace + step()));
                } else {
                    p.pace = Math.max(1, Math.max(old.goal(), old.pace - step()));
                }
                if (!old.still) {
                    p.loud = old.loud + old.more();
                    if (old.din() > old.sound()) {
                        p.loud += 3;
                    }
                    p.loud = Math.min(99, Math.max(0, p.loud));
                }
            }
            next.beat = beat + 1;
            return next;
        }

        World after(int n) {
            World w = this;
            for (int k = 0; k < n; k++) {
                w = w.next();
            }
            return w;
        }

        int first(int last, Predicate<World> is) {
            World w = this;
            for (int n = 0; n <= last; n++) {
                if (is.test(w)) {
                    return n;
                }
                w = w.next();
            }
            return -5;
        }

        boolean settled() {
            return players.stream().filter(p -> !p.still).mapToInt(p -> p.pace).distinct().count() <= 1;
        }

        int settles() {
            return first(60, World::settled);
        }

        int wakes() {
            return first(60, w -> w.noise() >= w.wake());
        }

        World stilled(int p) {
            World w = copy();
            w.players.get(p).still = true;
            return w;
        }

        boolean isAsSeen() {
            for (int[] row : seen) {
                if (after(row[2]).players.get(row[0]).pace != row[1]) {
                    return false;
                }
            }
            return true;
        }
    }

    // ---- the kinds

    private class Player implements Cloneable {
        World world;
        int i;
        int v;
        int seat;
        int loud;
        int pace;
        boolean still;
        int[] row = new int[4];

        Player copyInto(World other) {
            try {
                Player p = (Player) clone();
                p.world = other;
                p.row = row.clone();
                return p;
            } catch (CloneNotSupportedException e) {
                throw new IllegalStateException(e);
            }
        }

        int kind() {
            return 0;
        }

        Set<Integer> kinds() {
            Set<Integer> all = new HashSet<>();
            all.add(0);
            return all;
        }

        int sound() {
            return still ? 0 : loud;
        }

        int hears(Player other) {
            int way = 0;
            while ((seat + way) % 20 != other.seat && (other.seat + way) % 20 != seat) {
                way++;
            }
            return Math.max(0, other.sound() - 2 * way);
        }

        Player follows() {
            Player best = null;
            for (Player other : world.players) {
                if (other != this && hears(other) > (best == null ? 0 : hears(best))) {
                    best = other;
                }
            }
            return best;
        }

        int din() {
            return world.players.stream().filter(p -> p != this).mapToInt(this::hears).sum();
        }

        int goal() {
            return follows() == null ? pace : follows().pace;
        }

        int more() {
            int sum = 0;
            for (String clause : world.kitchen.split(";")) {
                String[] parts = clause.split(" ");
                if (parts.length == 3 && holds(parts[2])) {
                    sum += (clause.startsWith("louder") ? 1 : -1) * Integer.parseInt(parts[1]);
                }
            }
            return sum;
        }

        boolean holds(String e) {
            for (char sign : new char[] {'|', '&'}) {
                int at = outside(e, sign);
                if (at >= 0) {
                    boolean left = holds(e.substring(0, at));
                    boolean right = holds(e.substring(at + 1));
                    return sign == '|' ? left || right : left && right;
                }
            }
            if (e.charAt(0) == '!') {
                return !holds(e.substring(1));
            }
            if (e.charAt(0) == '(') {
                return holds(e.substring(1, e.length() - 1));
            }
            int n = Integer.parseInt(e.substring(2));
            int is = switch (e.charAt(0)) {
                case 'p' -> i;
                case 'k' -> kind();
                case 'v' -> v;
                case 'l' -> loud / 10;
                case 'c' -> pace / 10;
                default -> world.beat % 10;
            };
            return switch (e.charAt(1)) {
                case '<' -> is < n;
                case '>' -> is > n;
                default -> is == n;
            };
        }

        int beats(int x) {
            trace.add(10);
            return x + i;
        }

        int plays(int x) {
            trace.add(11);
            return beats(x) - v;
        }

        int tells(int x) {
            trace.add(12);
            return plays(x) * 2;
        }
    }

    private static int outside(String e, char sign) {
        int open = 0;
        for (int k = 0; k < e.length(); k++) {
            if (e.charAt(k) == '(') {
                open++;
            } else if (e.charAt(k) == ')') {
                open--;
            } else if (open == 0 && e.charAt(k) == sign) {
                return k;
            }
        }
        return -1;
    }

    private class Deaf extends Player {
        @Override int kind() { return 1; }
        @Override Set<Integer> kinds() { Set<Integer> all = super.kinds(); all.add(1); return all; }
        @Override int goal() { return pace; }
        @Override int plays(int x) { trace.add(20); return super.plays(x) ^ 6; }
    }

    private class Eager extends Player {
        @Override int kind() { return 2; }
        @Override Set<Integer> kinds() { Set<Integer> all = super.kinds(); all.add(2); return all; }
        @Override int goal() { return super.goal() + v; }
        @Override int beats(int x) { trace.add(30); return super.beats(x * 3); }
    }

    private class Little extends Player {
        @Override int kind() { return 3; }
        @Override Set<Integer> kinds() { Set<Integer> all = super.kinds(); all.add(3); return all; }
        @Override int goal() { return world.beat % (v + 2) == 0 ? pace : super.goal(); }
        @Override int tells(int x) { trace.add(40); return super.tells(x) + plays(1); }
    }

    private final class Bucket extends Deaf {
        @Override int kind() { return 4; }
        @Override Set<Integer> kinds() { Set<Integer> all = super.kinds(); all.add(4); return all; }
        @Override int sound() { return still ? 0 : Math.max(30, loud); }
        @Override int beats(int x) { trace.add(50); return -super.beats(x); }
        @Override int plays(int x) { trace.add(51); return super.plays(x + 1); }
    }

    private final class Shining extends Eager {
        @Override int kind() { return 5; }
        @Override Set<Integer> kinds() { Set<Integer> all = super.kinds(); all.add(5); return all; }
        @Override int sound() { return super.sound() * (world.beat % world.players.size() == i ? 2 : 1); }
        @Override int tells(int x) { trace.add(60); return super.tells(x - i); }
    }

    private final class Told extends Little {
        @Override int kind() { return 6; }
        @Override Set<Integer> kinds() { Set<Integer> all = super.kinds(); all.add(6); return all; }
        @Override int goal() { return super.goal() + row[world.beat % 4]; }
        @Override int plays(int x) { trace.add(70); return super.plays(x) + super.beats(2); }
        @Override int beats(int x) { trace.add(71); return super.beats(x) ^ v; }
    }

    // ---- the fault: all stacks of what may still come, byte by byte

    /** The FAULT of a text, or -1. A symbol: a sign in quotes, or a part of the grammar with a number. */
    static int fault(String text) {
        Set<List<String>> stacks = new HashSet<>();
        stacks.add(List.of("K10"));
        for (int k = 0; k < text.length(); k++) {
            Set<List<String>> next = new HashSet<>();
            for (List<String> stack : spread(stacks)) {
                if (!stack.isEmpty() && stack.get(0).equals("'" + text.charAt(k))) {
                    next.add(stack.subList(1, stack.size()));
                }
            }
            if (next.isEmpty()) {
                return k;
            }
            stacks = next;
        }
        return stacks.contains(List.of()) ? -1 : text.length();
    }

    /** The stacks whose top is a sign, or that are at their end. */
    private static Set<List<String>> spread(Set<List<String>> stacks) {
        Set<List<String>> signs = new HashSet<>();
        List<List<String>> open = new ArrayList<>(stacks);
        Set<List<String>> known = new HashSet<>(stacks);
        while (!open.isEmpty()) {
            List<String> stack = open.remove(open.size() - 1);
            if (stack.isEmpty() || stack.get(0).charAt(0) == '\'') {
                signs.add(stack);
                continue;
            }
            for (List<String> rule : rules(stack.get(0))) {
                List<String> longer = new ArrayList<>(rule);
                longer.addAll(stack.subList(1, stack.size()));
                if (known.add(longer)) {
                    open.add(longer);
                }
            }
        }
        return signs;
    }

    private static List<List<String>> rules(String symbol) {
        int n = Integer.parseInt(symbol.substring(1));
        List<List<String>> rules = new ArrayList<>();
        switch (symbol.charAt(0)) {
            case 'K' -> {
                rules.add(List.of("C0"));
                if (n > 1) {
                    rules.add(List.of("C0", "';", "K" + (n - 1)));
                }
            }
            case 'C' -> {
                for (String word : new String[] {"louder", "softer"}) {
                    rules.add(join(signs(word + " "), "N0", "' ", "E0"));
                }
                for (String word : new String[] {"step", "wake", "pay"}) {
                    rules.add(join(signs(word + " "), "N0"));
                }
            }
            case 'N' -> {
                rules.add(List.of("D0"));
                rules.add(List.of("D0", "D0"));
            }
            case 'D' -> {
                for (char digit = '0'; digit <= '9'; digit++) {
                    rules.add(List.of("'" + digit));
                }
            }
            case 'E' -> {
                rules.add(List.of("T" + n));
                rules.add(List.of("T" + n, "'|", "E" + n));
            }
            case 'T' -> {
                rules.add(List.of("F" + n));
                rules.add(List.of("F" + n, "'&", "T" + n));
            }
            default -> {
                if (n < 4) {
                    rules.add(List.of("'!", "F" + (n + 1)));
                    rules.add(List.of("'(", "E" + (n + 1), "')"));
                }
                for (char letter : "pkvlcb".toCharArray()) {
                    for (char relation : "<=>".toCharArray()) {
                        rules.add(List.of("'" + letter, "'" + relation, "N0"));
                    }
                }
            }
        }
        return rules;
    }

    private static List<String> signs(String word) {
        List<String> signs = new ArrayList<>();
        for (char sign : word.toCharArray()) {
            signs.add("'" + sign);
        }
        return signs;
    }

    private static List<String> join(List<String> first, String... more) {
        List<String> all = new ArrayList<>(first);
        all.addAll(List.of(more));
        return all;
    }

    // ---- the calls

    private static boolean in(long n, long least, long most) {
        return least <= n && n <= most;
    }

    private static long part(long above, long below, long part) {
        long a = above;
        long b = below;
        while (b != 0) {
            long rest = a % b;
            a = b;
            b = rest;
        }
        return (part == 0 ? above : below) / a;
    }

    long player(int kind, int v, int seat, int loud, int pace) {
        if (!in(kind, 0, 6)) {
            return -1;
        }
        if (!in(v, 0, 9) || !in(seat, 0, 19) || !in(loud, 0, 99) || !in(pace, 1, 200)) {
            return -2;
        }
        if (now.players.size() == 6) {
            return -4;
        }
        Player p = switch (kind) {
            case 0 -> new Player();
            case 1 -> new Deaf();
            case 2 -> new Eager();
            case 3 -> new Little();
            case 4 -> new Bucket();
            case 5 -> new Shining();
            default -> new Told();
        };
        p.world = now;
        p.i = now.players.size();
        p.v = v;
        p.seat = seat;
        p.loud = loud;
        p.pace = pace;
        now.players.add(p);
        return p.i;
    }

    long of(int player, int what) {
        if (!now.has(player)) {
            return -1001;
        }
        Player p = now.players.get(player);
        return switch (what) {
            case 0 -> p.kind();
            case 1 -> p.v;
            case 2 -> p.seat;
            case 3 -> p.loud;
            case 4 -> p.pace;
            case 5 -> p.still ? 1 : 0;
            case 6 -> p.sound();
            case 7 -> p.follows() == null ? -5 : p.follows().i;
            case 8 -> p.din();
            case 9 -> p.goal();
            case 10 -> p.more();
            default -> -1001;
        };
    }

    long set(int player, int what, int n) {
        if (!now.has(player) || !in(what, 0, 2)) {
            return -1;
        }
        if (!in(n, what == 2 ? 1 : 0, what == 0 ? 19 : what == 1 ? 99 : 200)) {
            return -2;
        }
        long was = of(player, what + 2);
        Player p = now.players.get(player);
        if (what == 0) {
            p.seat = n;
        } else if (what == 1) {
            p.loud = n;
        } else {
            p.pace = n;
        }
        return was;
    }

    long hush(int player, boolean is) {
        if (!now.has(player)) {
            return -1;
        }
        long was = of(player, 5);
        now.players.get(player).still = is;
        return was;
    }

    long row(int player, int part, int n) {
        if (!now.has(player) || !in(part, 0, 3)) {
            return -1;
        }
        if (!in(n, 0, 9)) {
            return -2;
        }
        Player p = now.players.get(player);
        if (p.kind() != 6) {
            return -3;
        }
        long was = p.row[part];
        p.row[part] = n;
        return was;
    }

    long feed(int sign) {
        if (!in(sign, 0, 127)) {
            return -2;
        }
        if (text.length() == 100) {
            return -4;
        }
        text += (char) sign;
        return text.length();
    }

    long kitchen() {
        if (kitchens.size() == 6) {
            return -4;
        }
        String read = text;
        text = "";
        int fault = fault(read);
        if (fault >= 0) {
            return -10 - fault;
        }
        kitchens.add(read);
        now.kitchen = read;
        return kitchens.size() - 1;
    }

    long told(int what) {
        return switch (what) {
            case 0 -> now.beat;
            case 1 -> now.earned;
            case 2 -> now.noise();
            case 3 -> now.step();
            case 4 -> now.wake();
            case 5 -> now.pay();
            case 6 -> now.players.stream().filter(p -> p.still).mapToInt(p -> 1 << p.i).sum();
            default -> -1;
        };
    }

    long pass(int n) {
        if (!in(n, 0, 60)) {
            return -2;
        }
        if (now.beat + n > 9999) {
            return -3;
        }
        now = now.after(n);
        return now.noise();
    }

    long on(int n, int what) {
        if (what != 0 && what != 1 && !now.has(what - 10L) && !now.has(what - 20L)) {
            return -1;
        }
        if (!in(n, 0, 60)) {
            return -2;
        }
        World w = now.after(n);
        return what == 0 ? w.noise() : what == 1 ? w.earned
            : what < 20 ? w.players.get(what - 10).pace : w.players.get(what - 20).loud;
    }

    long wakes() {
        return now.wakes();
    }

    long settles() {
        return now.settles();
    }

    long leader(int n) {
        if (!in(n, 0, 60)) {
            return -2;
        }
        World w = now.after(n);
        int best = -5;
        long most = 0;
        for (Player p : w.players) {
            long votes = w.players.stream().filter(q -> !q.still && q.follows() == p).count();
            if (votes > most) {
                best = p.i;
                most = votes;
            }
        }
        return best;
    }

    private static int orMore(int beats) {
        return beats == -5 ? 1000 : beats;
    }

    long seats() {
        int best = -5;
        int least = orMore(now.settles());
        for (int two = 1; two < 100; two++) {
            int i = two / 10;
            int j = two % 10;
            if (i < j && now.has(j)) {
                World w = now.copy();
                w.players.get(i).seat = now.players.get(j).seat;
                w.players.get(j).seat = now.players.get(i).seat;
                if (orMore(w.settles()) < least) {
                    least = orMore(w.settles());
                    best = two;
                }
            }
        }
        return best;
    }

    long whoHush() {
        int best = -5;
        int greatest = orMore(now.wakes());
        for (Player p : now.players) {
            if (!p.still && orMore(now.stilled(p.i).wakes()) > greatest) {
                greatest = orMore(now.stilled(p.i).wakes());
                best = p.i;
            }
        }
        return best;
    }

    long quick(int player) {
        if (!now.has(player)) {
            return -1;
        }
        for (int pace = 10; pace <= 200; pace += 10) {
            World w = now.copy();
            w.players.get(player).pace = pace;
            if (orMore(w.settles()) <= 30) {
                return pace;
            }
        }
        return -5;
    }

    long best(int n) {
        if (!in(n, 0, 60)) {
            return -2;
        }
        int best = 0;
        for (int k = 1; k <= n; k++) {
            if (now.after(k).earned > now.after(best).earned) {
                best = k;
            }
        }
        return best;
    }

    long see(int player, int pace, int n) {
        if (player == -1) {
            now.seen.clear();
            return 0;
        }
        if (!now.has(player)) {
            return -1;
        }
        if (!in(pace, 1, 200) || !in(n, 0, 8)) {
            return -2;
        }
        return come(now.seen, 5, player, pace, n);
    }

    private static long come(List<int[]> rows, int most, int... row) {
        if (rows.size() == most) {
            return -4;
        }
        rows.add(row);
        return rows.size();
    }

    long who() {
        return now.players.stream().filter(p -> now.stilled(p.i).isAsSeen()).mapToInt(p -> 1 << p.i).sum();
    }

    long was(int player, int what) {
        if (!now.has(player) || !in(what, 0, 1)) {
            return -1;
        }
        List<Integer> can = new ArrayList<>();
        for (int loud = 0; loud < 100; loud++) {
            World w = now.copy();
            w.players.get(player).loud = loud;
            if (w.isAsSeen()) {
                can.add(loud);
            }
        }
        return what == 0 ? can.size() : can.isEmpty() ? -5 : can.get(0);
    }

    long odds(int n, int part) {
        if (!in(n, 0, 30) || !in(part, 0, 1) || now.players.isEmpty()) {
            return Long.MIN_VALUE;
        }
        ToIntFunction<Player> settles = p -> orMore(now.stilled(p.i).settles());
        return part(now.players.stream().filter(p -> settles.applyAsInt(p) <= n).count(), now.players.size(), part);
    }

    long mean(int n, int part) {
        if (!in(n, 0, 60) || !in(part, 0, 1) || now.players.isEmpty()) {
            return Long.MIN_VALUE;
        }
        return part(now.after(n).players.stream().mapToInt(p -> p.pace).sum(), now.players.size(), part);
    }

    long afternoon(int what, int player) {
        if (what == -1) {
            now.afternoon.clear();
            return 0;
        }
        if (!in(what, 0, 2) || what > 0 && !now.has(player)) {
            return -1;
        }
        return come(now.afternoon, 10, what, player);
    }

    long gone(int what) {
        if (!in(what, 0, 1)) {
            return -1;
        }
        World w = now.copy();
        for (int[] row : now.afternoon) {
            if (row[0] == 0) {
                w = w.next();
            } else {
                w.players.get(row[1]).still = row[0] == 1;
            }
        }
        return what == 0 ? w.noise() : w.earned;
    }

    long book(int player, int pace) {
        if (player == -1) {
            now.book.clear();
            return 0;
        }
        if (!now.has(player)) {
            return -1;
        }
        return in(pace, 1, 200) ? come(now.book, 8, player, pace) : -2;
    }

    long looked() {
        for (int[] row : now.book) {
            if (now.players.get(row[0]).pace != row[1]) {
                return now.book.indexOf(row);
            }
        }
        return -5;
    }

    long judge(int tape, int i) {
        if (!in(tape, 0, 5)) {
            return -1;
        }
        if (tapes[tape] != null && sorts[tape] != 1) {
            return -12;
        }
        for (Player p : now.players) {
            if (i < 0 || tapes[tape] == null || (long) i + p.i >= tapes[tape].length) {
                return 100 + p.i;
            }
            if (tapes[tape][i + p.i] != p.pace) {
                return p.i;
            }
        }
        return -5;
    }

    long image() {
        image = now.copy();
        return now.players.size();
    }

    long undo() {
        if (image == null) {
            return -3;
        }
        now = image.copy();
        return now.players.size();
    }

    long act(int player, int act, int x) {
        trace.clear();
        if (!now.has(player)) {
            return 0;
        }
        Player p = now.players.get(player);
        return switch (act) {
            case 0 -> p.beats(x);
            case 1 -> p.plays(x);
            case 2 -> p.tells(x);
            default -> 0;
        };
    }

    long trace(int i) {
        return i >= 0 && i < 20 && i < trace.size() ? trace.get(i) : -1;
    }

    long taken(int player, int k) {
        if (!in(k, 0, 6)) {
            return -2;
        }
        if (!now.has(player)) {
            return -11;
        }
        Player p = now.players.get(player);
        return p.kinds().contains(k) ? p.kind() : -12;
    }

    long count(int what) {
        return switch (what) {
            case 0 -> now.players.size();
            case 1 -> kitchens.size();
            case 2 -> now.seen.size();
            case 3 -> now.afternoon.size();
            case 4 -> now.book.size();
            case 5 -> text.length();
            case 6 -> trace.size();
            default -> -2;
        };
    }

    long tape(int tape, int sort, int n) {
        if (!in(tape, 0, 5)) {
            return -1;
        }
        if (sort != -1 && (!in(sort, 0, 4) || n > 60)) {
            return -2;
        }
        if (sort != -1 && n < 0) {
            return -14;
        }
        sorts[tape] = sort;
        tapes[tape] = sort == -1 ? null : new long[n];
        return 1;
    }

    long item(int tape, int i, long v) {
        if (!in(tape, 0, 5)) {
            return -1;
        }
        if (tapes[tape] == null) {
            return -11;
        }
        if (!in(i, 0, tapes[tape].length - 1)) {
            return -13;
        }
        int gap = new int[] {56, 48, 32, 0, 0}[sorts[tape]];
        tapes[tape][i] = sorts[tape] == 4 ? (v == 0 ? 0 : 1) : v << gap >> gap;
        return 1;
    }

    long read(int tape, int i) {
        boolean is = in(tape, 0, 5) && tapes[tape] != null && in(i, 0, tapes[tape].length - 1);
        return is ? tapes[tape][i] : Long.MIN_VALUE;
    }

    long shift(int tape, int i, int other, int j, int n) {
        if (!in(tape, 0, 5) || !in(other, 0, 5)) {
            return -1;
        }
        if (tapes[tape] == null || tapes[other] == null) {
            return -11;
        }
        if (sorts[tape] != sorts[other]) {
            return -12;
        }
        boolean is = n >= 0 && i >= 0 && j >= 0
            && (long) i + n <= tapes[tape].length && (long) j + n <= tapes[other].length;
        if (!is) {
            return -13;
        }
        long[] before = tapes[tape].clone();
        for (int k = 0; k < n; k++) {
            tapes[other][j + k] = before[i + k];
        }
        return n;
    }
}
