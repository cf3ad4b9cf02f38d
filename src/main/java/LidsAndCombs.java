/** Players round a table who follow whom they hear most; the words are those of DOC.md. */
public final class LidsAndCombs {
    public static final int NONE = -1, BAD = -2, STATE = -3, FULL = -4;
    public static final long NO = Long.MIN_VALUE;

    /** Nobody, none, or not by then: the document answers -5 for each of these. */
    private static final int NOBODY = -5;
    private static final int FAULT_BASE = -10;
    private static final int NOTHING = -11, CAST = -12, PLACE = -13, SIZE = -14;
    private static final int NOT_OF_ANY = -1001;

    private static final int PLAYER = 0, DEAF = 1, EAGER = 2, LITTLE = 3, BUCKET = 4, SHINING = 5, TOLD = 6;
    private static final int KINDS = 7;
    /** The kind above each kind; -1 above PLAYER. */
    private static final int[] ABOVE = {-1, 0, 0, 0, 1, 2, 3};

    private static final int MOST_PLAYERS = 6, SEATS = 20, ROW_PARTS = 4;
    private static final int MOST_LOUD = 99, MOST_PACE = 200, MOST_V = 9, MOST_EARNED = 99999, LAST_BEAT = 9999;
    private static final int MOST_TEXT = 100, LAST_SIGN = 127, MOST_CLAUSES = 10, MOST_KITCHENS = 6;
    private static final int FURTHEST = 60, FURTHEST_ODDS = 30, FURTHEST_QUICK = 30, FURTHEST_SEEN = 8;
    private static final int MOST_SEEN = 5, MOST_AFTERNOON = 10, MOST_BOOK = 8;
    private static final int GOES_BEAT = 0, GOES_STILL = 1, GOES_NOT_STILL = 2;
    private static final int TAPES = 6, MOST_ITEMS = 60, SHORTS = 1, SORTS = 5;
    private static final int ENDS_AHEAD = 100;

    private final Kitchen[] kitchens = new Kitchen[MOST_KITCHENS];
    private int kitchenCount = 0;
    private final Reader text = new Reader();
    private final Table now;
    private final Rows seen = new Rows(MOST_SEEN);
    private final Rows afternoonRows = new Rows(MOST_AFTERNOON);
    private final Rows bookRows = new Rows(MOST_BOOK);
    private boolean hasImage = false;
    private final Table imageTable;
    private final Rows imageSeen = new Rows(MOST_SEEN);
    private final Rows imageAfternoon = new Rows(MOST_AFTERNOON);
    private final Rows imageBook = new Rows(MOST_BOOK);
    private final Foresight foresight;
    private final Acts acts = new Acts();
    private final Tape[] tapes = new Tape[TAPES];

    public LidsAndCombs() {
        Kitchen noClauses = new Kitchen();
        now = new Table(noClauses);
        imageTable = new Table(noClauses);
        foresight = new Foresight(now, new Table(noClauses));
        for (int k = 0; k < MOST_KITCHENS; k++) {
            kitchens[k] = new Kitchen();
        }
        for (int t = 0; t < TAPES; t++) {
            tapes[t] = new Tape();
        }
    }

    // ---- players, kitchens

    public int player(int kind, int v, int seat, int loud, int pace) {
        if (!isWithin(kind, 0, KINDS - 1)) {
            return NONE;
        }
        if (!isWithin(v, 0, MOST_V) || !isSeat(seat) || !isLoud(loud) || !isPace(pace)) {
            return BAD;
        }
        return now.join(kind, v, seat, loud, pace);
    }

    public int of(int player, int what) {
        if (!now.has(player)) {
            return NOT_OF_ANY;
        }
        now.listen();
        switch (what) {
            case 0: return now.kind[player];
            case 1: return now.v[player];
            case 2: return now.seat[player];
            case 3: return now.loud[player];
            case 4: return now.pace[player];
            case 5: return now.isStill(player) ? 1 : 0;
            case 6: return now.sounds[player];
            case 7: return now.followed[player];
            case 8: return now.dins[player];
            case 9: return now.goals[player];
            case 10: return now.kitchen.more(now, player);
            default: return NOT_OF_ANY;
        }
    }

    public int set(int player, int what, int n) {
        if (!now.has(player)) {
            return NONE;
        }
        switch (what) {
            case 0: return isSeat(n) ? exchange(now.seat, player, n) : BAD;
            case 1: return isLoud(n) ? exchange(now.loud, player, n) : BAD;
            case 2: return isPace(n) ? exchange(now.pace, player, n) : BAD;
            default: return NONE;
        }
    }

    public int hush(int player, boolean is) {
        if (!now.has(player)) {
            return NONE;
        }
        int was = now.isStill(player) ? 1 : 0;
        now.keepStill(player, is);
        return was;
    }

    public int row(int player, int part, int n) {
        if (!now.has(player) || !isWithin(part, 0, ROW_PARTS - 1)) {
            return NONE;
        }
        if (!isWithin(n, 0, 9)) {
            return BAD;
        }
        return now.kind[player] == TOLD ? exchange(now.rows, player * ROW_PARTS + part, n) : STATE;
    }

    public int feed(int sign) {
        return isWithin(sign, 0, LAST_SIGN) ? text.append(sign) : BAD;
    }

    public int kitchen() {
        if (kitchenCount >= MOST_KITCHENS) {
            return FULL;
        }
        Kitchen read = kitchens[kitchenCount];
        boolean isKitchen = text.reads(read);
        text.size = 0;
        if (!isKitchen) {
            return FAULT_BASE - text.place;
        }
        now.kitchen = read;
        kitchenCount++;
        return kitchenCount - 1;
    }

    public int told(int what) {
        switch (what) {
            case 0: return now.beat;
            case 1: return now.earned;
            case 2: return now.noise();
            case 3: return now.kitchen.step;
            case 4: return now.kitchen.wake;
            case 5: return now.kitchen.pay;
            case 6: return now.still;
            default: return NONE;
        }
    }

    // ---- beats

    public int pass(int n) {
        if (!isWithin(n, 0, FURTHEST)) {
            return BAD;
        }
        if (now.beat + n > LAST_BEAT) {
            return STATE;
        }
        now.go(n);
        return now.noise();
    }

    public int on(int n, int what) {
        int ofPace = what - 10;
        int ofLoud = what - 20;
        boolean isAsked = what == 0 || what == 1 || now.has(ofPace) || now.has(ofLoud);
        if (!isAsked) {
            return NONE;
        }
        if (!isWithin(n, 0, FURTHEST)) {
            return BAD;
        }
        Table ahead = foresight.after(n);
        if (what == 0) {
            return ahead.noise();
        }
        if (what == 1) {
            return ahead.earned;
        }
        return ahead.has(ofPace) ? ahead.pace[ofPace] : ahead.has(ofLoud) ? ahead.loud[ofLoud] : NONE;
    }

    public int wakes() {
        foresight.begin();
        return foresight.wakesBy(FURTHEST, NOBODY);
    }

    public int settles() {
        foresight.begin();
        return foresight.settlesBy(FURTHEST, NOBODY);
    }

    public int leader(int n) {
        return isWithin(n, 0, FURTHEST) ? foresight.after(n).mostFollowed() : BAD;
    }

    // ---- what is best

    public int seats() {
        return foresight.bestChangeOfSeats();
    }

    public int whoHush() {
        return foresight.bestToBeStill();
    }

    public int quick(int player) {
        return now.has(player) ? foresight.leastQuick(player) : NONE;
    }

    public int best(int n) {
        return isWithin(n, 0, FURTHEST) ? foresight.richest(n) : BAD;
    }

    // ---- seen, odds

    public int see(int player, int pace, int n) {
        if (player == -1) {
            return seen.empty();
        }
        if (!now.has(player)) {
            return NONE;
        }
        if (!isPace(pace) || !isWithin(n, 0, FURTHEST_SEEN)) {
            return BAD;
        }
        return seen.add(player, pace, n);
    }

    public int who() {
        return foresight.whoCanBeStill(seen);
    }

    public int was(int player, int what) {
        if (!now.has(player)) {
            return NONE;
        }
        switch (what) {
            case 0: return foresight.soLoud(player, seen, false);
            case 1: return foresight.soLoud(player, seen, true);
            default: return NONE;
        }
    }

    public long odds(int n, int part) {
        if (!isWithin(n, 0, FURTHEST_ODDS) || !isWithin(part, 0, 1) || now.players < 1) {
            return NO;
        }
        return lowestTerms(foresight.howManySettle(n), now.players, part);
    }

    public long mean(int n, int part) {
        if (!isWithin(n, 0, FURTHEST) || !isWithin(part, 0, 1) || now.players < 1) {
            return NO;
        }
        return lowestTerms(foresight.after(n).allPaces(), now.players, part);
    }

    // ---- afternoons, books

    public int afternoon(int what, int player) {
        if (what == -1) {
            return afternoonRows.empty();
        }
        if (!isWithin(what, GOES_BEAT, GOES_NOT_STILL) || what != GOES_BEAT && !now.has(player)) {
            return NONE;
        }
        return afternoonRows.add(what, player, 0);
    }

    public int gone(int what) {
        if (!isWithin(what, 0, 1)) {
            return NONE;
        }
        Table ahead = foresight.behind(afternoonRows);
        return what == 0 ? ahead.noise() : ahead.earned;
    }

    public int book(int player, int pace) {
        if (player == -1) {
            return bookRows.empty();
        }
        if (!now.has(player)) {
            return NONE;
        }
        return isPace(pace) ? bookRows.add(player, pace, 0) : BAD;
    }

    public int looked() {
        for (int r = 0; r < bookRows.size; r++) {
            int player = bookRows.first[r];
            if (now.has(player) && now.pace[player] != bookRows.second[r]) {
                return r;
            }
        }
        return NOBODY;
    }

    // ---- judging, the image, acts, tapes

    public int judge(int tape, int i) {
        if (!isTape(tape)) {
            return NONE;
        }
        Tape told = tapes[tape];
        if (told.holds() && told.sort != SHORTS) {
            return CAST;
        }
        int left = isWithin(i, 0, told.size) ? told.size - i : 0;
        for (int p = 0; p < now.players; p++) {
            if (p >= left) {
                return ENDS_AHEAD + p;
            }
            if (told.items[i + p] != now.pace[p]) {
                return p;
            }
        }
        return NOBODY;
    }

    public int image() {
        imageTable.copyFrom(now);
        imageSeen.copyFrom(seen);
        imageAfternoon.copyFrom(afternoonRows);
        imageBook.copyFrom(bookRows);
        hasImage = true;
        return now.players;
    }

    public int undo() {
        if (!hasImage) {
            return STATE;
        }
        now.copyFrom(imageTable);
        seen.copyFrom(imageSeen);
        afternoonRows.copyFrom(imageAfternoon);
        bookRows.copyFrom(imageBook);
        return now.players;
    }

    public int act(int player, int act, int x) {
        acts.forget();
        if (!now.has(player) || !isWithin(act, Acts.BEATS, Acts.TELLS)) {
            return 0;
        }
        return acts.begin(player, now.kind[player], now.v[player], act, x);
    }

    public int trace(int i) {
        return isWithin(i, 0, acts.kept() - 1) ? acts.trace[i] : NONE;
    }

    public int taken(int player, int k) {
        if (!isWithin(k, 0, KINDS - 1)) {
            return BAD;
        }
        if (!now.has(player)) {
            return NOTHING;
        }
        int kind = now.kind[player];
        return isUnder(kind, k) ? kind : CAST;
    }

    public int count(int what) {
        switch (what) {
            case 0: return now.players;
            case 1: return kitchenCount;
            case 2: return seen.size;
            case 3: return afternoonRows.size;
            case 4: return bookRows.size;
            case 5: return text.size;
            case 6: return acts.ran;
            default: return BAD;
        }
    }

    public int tape(int tape, int sort, int n) {
        if (!isTape(tape)) {
            return NONE;
        }
        if (sort == Tape.HOLDS_NOTHING) {
            return tapes[tape].become(sort, 0);
        }
        if (!isWithin(sort, 0, SORTS - 1) || n > MOST_ITEMS) {
            return BAD;
        }
        return n < 0 ? SIZE : tapes[tape].become(sort, n);
    }

    public int item(int tape, int i, long v) {
        if (!isTape(tape)) {
            return NONE;
        }
        Tape changed = tapes[tape];
        if (!changed.holds()) {
            return NOTHING;
        }
        if (!isWithin(i, 0, changed.size - 1)) {
            return PLACE;
        }
        changed.items[i] = changed.cut(v);
        return 1;
    }

    public long read(int tape, int i) {
        return isTape(tape) && isWithin(i, 0, tapes[tape].size - 1) ? tapes[tape].items[i] : NO;
    }

    public int shift(int tape, int i, int other, int j, int n) {
        if (!isTape(tape) || !isTape(other)) {
            return NONE;
        }
        Tape from = tapes[tape];
        Tape to = tapes[other];
        if (!from.holds() || !to.holds()) {
            return NOTHING;
        }
        if (from.sort != to.sort) {
            return CAST;
        }
        if (!from.spans(i, n) || !to.spans(j, n)) {
            return PLACE;
        }
        System.arraycopy(from.items, i, to.items, j, n);
        return n;
    }

    // ---- what the calls share

    private static boolean isWithin(int n, int least, int most) {
        return n >= least && n <= most;
    }

    private static boolean isSeat(int n) {
        return isWithin(n, 0, SEATS - 1);
    }

    private static boolean isLoud(int n) {
        return isWithin(n, 0, MOST_LOUD);
    }

    private static boolean isPace(int n) {
        return isWithin(n, 1, MOST_PACE);
    }

    private static boolean isTape(int tape) {
        return isWithin(tape, 0, TAPES - 1);
    }

    private static int held(int n, int least, int most) {
        return Math.max(least, Math.min(most, n));
    }

    private static int exchange(int[] row, int place, int n) {
        if (!isWithin(place, 0, row.length - 1)) {
            return NONE;
        }
        int was = row[place];
        row[place] = n;
        return was;
    }

    /** Whether a kind is the other or stands under it. */
    private static boolean isUnder(int kind, int other) {
        int at = kind;
        for (int up = 0; up < KINDS && isWithin(at, 0, KINDS - 1); up++) {
            if (at == other) {
                return true;
            }
            at = ABOVE[at];
        }
        return false;
    }

    /** Part 0 or 1 of a fraction whose lower number is 1 or more. */
    private static int lowestTerms(int above, int below, int part) {
        for (int d = below; d > 1; d--) {
            if (above % d == 0 && below % d == 0) {
                return part == 0 ? above / d : below / d;
            }
        }
        return part == 0 ? above : below;
    }

    /** How all is: who sits round the table, the beat, what is earned, which kitchen holds. */
    private static final class Table {
        int players = 0;
        final int[] kind = new int[MOST_PLAYERS];
        final int[] v = new int[MOST_PLAYERS];
        final int[] seat = new int[MOST_PLAYERS];
        final int[] loud = new int[MOST_PLAYERS];
        final int[] pace = new int[MOST_PLAYERS];
        final int[] rows = new int[MOST_PLAYERS * ROW_PARTS];
        int still = 0;
        int beat = 0;
        int earned = 0;
        Kitchen kitchen;
        // Filled by listen(): a beat goes by how all is ahead of it, so it is kept while paces change.
        final int[] sounds = new int[MOST_PLAYERS];
        final int[] followed = new int[MOST_PLAYERS];
        final int[] dins = new int[MOST_PLAYERS];
        final int[] goals = new int[MOST_PLAYERS];
        private final int[] votes = new int[MOST_PLAYERS];

        Table(Kitchen noClauses) {
            kitchen = noClauses;
        }

        void copyFrom(Table other) {
            players = other.players;
            System.arraycopy(other.kind, 0, kind, 0, MOST_PLAYERS);
            System.arraycopy(other.v, 0, v, 0, MOST_PLAYERS);
            System.arraycopy(other.seat, 0, seat, 0, MOST_PLAYERS);
            System.arraycopy(other.loud, 0, loud, 0, MOST_PLAYERS);
            System.arraycopy(other.pace, 0, pace, 0, MOST_PLAYERS);
            System.arraycopy(other.rows, 0, rows, 0, MOST_PLAYERS * ROW_PARTS);
            still = other.still;
            beat = other.beat;
            earned = other.earned;
            kitchen = other.kitchen;
        }

        boolean has(int player) {
            return isWithin(player, 0, players - 1);
        }

        int join(int ofKind, int ofV, int atSeat, int soLoud, int atPace) {
            int number = players;
            if (number >= MOST_PLAYERS) {
                return FULL;
            }
            kind[number] = ofKind;
            v[number] = ofV;
            seat[number] = atSeat;
            loud[number] = soLoud;
            pace[number] = atPace;
            players++;
            return number;
        }

        boolean isStill(int i) {
            return (still >> i & 1) == 1;
        }

        void keepStill(int i, boolean is) {
            still = is ? still | 1 << i : still & ~(1 << i);
        }

        private int soundOf(int i) {
            if (isStill(i)) {
                return 0;
            }
            if (kind[i] == BUCKET) {
                return Math.max(30, loud[i]);
            }
            boolean shines = kind[i] == SHINING && players > 0 && beat % players == i;
            return shines ? 2 * loud[i] : loud[i];
        }

        int noise() {
            int all = 0;
            for (int i = 0; i < players; i++) {
                all += soundOf(i);
            }
            return all;
        }

        /** Fills sounds, followed, dins and goals by how all is now. */
        void listen() {
            for (int i = 0; i < players; i++) {
                sounds[i] = soundOf(i);
            }
            for (int i = 0; i < players; i++) {
                hearOthers(i);
                goals[i] = goalOf(i);
            }
        }

        private void hearOthers(int i) {
            int most = 0;
            followed[i] = NOBODY;
            dins[i] = 0;
            for (int j = 0; j < players; j++) {
                int heard = j == i ? 0 : Math.max(0, sounds[j] - 2 * way(i, j));
                dins[i] += heard;
                if (heard > most) {
                    most = heard;
                    followed[i] = j;
                }
            }
        }

        private int way(int i, int j) {
            int one = Math.abs(seat[i] - seat[j]);
            return Math.min(one, SEATS - one);
        }

        private int goalOf(int i) {
            int whom = followed[i];
            int theirs = whom >= 0 && whom < players ? pace[whom] : pace[i];
            switch (kind[i]) {
                case DEAF:
                case BUCKET:
                    return pace[i];
                case EAGER:
                case SHINING:
                    return theirs + v[i];
                case LITTLE:
                    return isOwnTurn(i) ? pace[i] : theirs;
                case TOLD:
                    return (isOwnTurn(i) ? pace[i] : theirs) + rows[i * ROW_PARTS + (beat & 3)];
                default:
                    return theirs;
            }
        }

        /** Whether a LITTLE one goes by its own pace at this beat. */
        private boolean isOwnTurn(int i) {
            int period = v[i] + 2;
            return period > 0 && beat % period == 0;
        }

        void go(int beats) {
            for (int n = 0; n < beats; n++) {
                beatGoes();
            }
        }

        void beatGoes() {
            listen();
            earn();
            for (int i = 0; i < players; i++) {
                // MORE looks at the pace ahead of the beat, so LOUD changes first.
                if (!isStill(i)) {
                    int besides = dins[i] > sounds[i] ? 3 : 0;
                    loud[i] = held(loud[i] + kitchen.more(this, i) + besides, 0, MOST_LOUD);
                }
                int nearer = held(goals[i] - pace[i], -kitchen.step, kitchen.step);
                pace[i] = held(pace[i] + nearer, 1, MOST_PACE);
            }
            beat++;
        }

        private void earn() {
            int noise = noise();
            int pay = Math.max(1, kitchen.pay);
            int more = noise < kitchen.wake ? noise / pay : -10;
            earned = held(earned + more, 0, MOST_EARNED);
        }

        boolean isAwake() {
            return noise() >= kitchen.wake;
        }

        boolean isSettled() {
            int one = 0;
            for (int i = 0; i < players; i++) {
                if (isStill(i)) {
                    continue;
                }
                if (one != 0 && pace[i] != one) {
                    return false;
                }
                one = pace[i];
            }
            return true;
        }

        int mostFollowed() {
            listen();
            for (int i = 0; i < players; i++) {
                votes[i] = 0;
            }
            for (int i = 0; i < players; i++) {
                if (!isStill(i) && has(followed[i])) {
                    votes[followed[i]]++;
                }
            }
            int most = 0;
            int who = NOBODY;
            for (int i = 0; i < players; i++) {
                if (votes[i] > most) {
                    most = votes[i];
                    who = i;
                }
            }
            return who;
        }

        int allPaces() {
            int all = 0;
            for (int i = 0; i < players; i++) {
                all += pace[i];
            }
            return all;
        }

        /** What a letter of a TEST says of a player. */
        int letterOf(int letter, int i) {
            switch (letter) {
                case 'p': return i;
                case 'k': return kind[i];
                case 'v': return v[i];
                case 'l': return loud[i] / 10;
                case 'c': return pace[i] / 10;
                default: return beat % 10;
            }
        }
    }

    /** The clauses of a text that was read; one that nothing was read into has none. */
    private static final class Kitchen {
        int step;
        int wake;
        int pay;
        private int clauses;
        /** Below 0 for softer. */
        private final int[] amount = new int[MOST_CLAUSES];
        /** Behind which of the marks a clause's condition ends. */
        private final int[] end = new int[MOST_CLAUSES];
        // Conditions stand as marks behind what they join: a TEST's letter, or one of ! & |.
        private int marks;
        private final int[] mark = new int[MOST_TEXT];
        private final int[] relation = new int[MOST_TEXT];
        private final int[] number = new int[MOST_TEXT];

        Kitchen() {
            clear();
        }

        /** Also ahead of each reading: a text that had a fault may have left clauses here. */
        void clear() {
            step = 2;
            wake = 60;
            pay = 5;
            clauses = 0;
            marks = 0;
        }

        void addMark(int sign, int related, int n) {
            if (marks < MOST_TEXT) {
                mark[marks] = sign;
                relation[marks] = related;
                number[marks] = n;
                marks++;
            }
        }

        /** The clause's condition is the marks that came since the last clause. */
        void addClause(int n) {
            if (clauses < MOST_CLAUSES) {
                amount[clauses] = n;
                end[clauses] = marks;
                clauses++;
            }
        }

        int more(Table table, int player) {
            int sum = 0;
            int from = 0;
            for (int c = 0; c < clauses; c++) {
                if (isSo(table, player, from, end[c])) {
                    sum += amount[c];
                }
                from = end[c];
            }
            return sum;
        }

        /** Goes through a condition's marks; the bits of open are the parts still to be joined, the newest lowest. */
        private boolean isSo(Table table, int player, int from, int to) {
            int open = 0;
            for (int m = from; m < to; m++) {
                int newest = open & 1;
                switch (mark[m]) {
                    case '!':
                        open = open ^ 1;
                        break;
                    case '&':
                        open = newest == 1 ? open >> 1 : open >> 1 & ~1;
                        break;
                    case '|':
                        open = open >> 1 | newest;
                        break;
                    default:
                        boolean is = compares(table.letterOf(mark[m], player), relation[m], number[m]);
                        open = open << 1 | (is ? 1 : 0);
                        break;
                }
            }
            return (open & 1) == 1;
        }

        private static boolean compares(int n, int related, int other) {
            return related == '<' ? n < other : related == '>' ? n > other : n == other;
        }
    }

    /** THE TEXT, and its reading; where the reading stops short, place is the FAULT. */
    private static final class Reader {
        private static final int LOUDER = 0, SOFTER = 1, STEP = 2, WAKE = 3, PAY = 4, NO_WORD = -1;
        private static final int DEEPEST = 4, NO_SIGN = -1;

        int size = 0;
        int place = 0;
        private final int[] signs = new int[MOST_TEXT];
        private int number = 0;

        int append(int sign) {
            if (size >= MOST_TEXT) {
                return FULL;
            }
            signs[size] = sign;
            size++;
            return size;
        }

        boolean reads(Kitchen into) {
            into.clear();
            place = 0;
            for (int c = 0; c < MOST_CLAUSES; c++) {
                if (c > 0 && !takes(';')) {
                    break;
                }
                if (!readsClause(into)) {
                    return false;
                }
            }
            return place == size;
        }

        private int signAt(int at) {
            return at >= 0 && at < size && at < MOST_TEXT ? signs[at] : NO_SIGN;
        }

        private boolean takes(int sign) {
            if (signAt(place) != sign) {
                return false;
            }
            place++;
            return true;
        }

        private boolean readsClause(Kitchen into) {
            int word = wordHere();
            if (!takesWord(word) || !takes(' ') || !readsNumber()) {
                return false;
            }
            int n = number;
            switch (word) {
                case STEP:
                    into.step = n;
                    return true;
                case WAKE:
                    into.wake = n;
                    return true;
                case PAY:
                    into.pay = Math.max(1, n);
                    return true;
                default:
                    if (!takes(' ') || !readsJoined(into, '|', 0)) {
                        return false;
                    }
                    into.addClause(word == LOUDER ? n : -n);
                    return true;
            }
        }

        /** Which word can begin here: two words begin with s, and the next sign tells them apart. */
        private int wordHere() {
            switch (signAt(place)) {
                case 'l': return LOUDER;
                case 's': return signAt(place + 1) == 't' ? STEP : SOFTER;
                case 'w': return WAKE;
                case 'p': return PAY;
                default: return NO_WORD;
            }
        }

        private static String letters(int word) {
            switch (word) {
                case LOUDER: return "louder";
                case SOFTER: return "softer";
                case STEP: return "step";
                case WAKE: return "wake";
                default: return "pay";
            }
        }

        private boolean takesWord(int word) {
            if (word == NO_WORD) {
                return false;
            }
            String letters = letters(word);
            for (int k = 0; k < letters.length(); k++) {
                if (!takes(letters.charAt(k))) {
                    return false;
                }
            }
            return true;
        }

        private boolean readsNumber() {
            if (!isDigit(signAt(place))) {
                return false;
            }
            number = signAt(place) - '0';
            place++;
            if (isDigit(signAt(place))) {
                number = number * 10 + signAt(place) - '0';
                place++;
            }
            return true;
        }

        private static boolean isDigit(int sign) {
            return sign >= '0' && sign <= '9';
        }

        /** E, the parts with | between; each of these is T, the parts with & between. */
        private boolean readsJoined(Kitchen into, int sign, int depth) {
            for (int k = 0; k < MOST_TEXT && (k == 0 || takes(sign)); k++) {
                boolean isRead = sign == '|' ? readsJoined(into, '&', depth) : readsPart(into, depth);
                if (!isRead) {
                    return false;
                }
                if (k > 0) {
                    into.addMark(sign, 0, 0);
                }
            }
            return true;
        }

        /** F; depth is within how many ( and ! it stands. */
        private boolean readsPart(Kitchen into, int depth) {
            boolean isDeeper = signAt(place) == '!' || signAt(place) == '(';
            if (!isDeeper) {
                return readsTest(into);
            }
            if (depth >= DEEPEST) {
                return false;
            }
            if (takes('(')) {
                return readsJoined(into, '|', depth + 1) && takes(')');
            }
            place++;
            if (!readsPart(into, depth + 1)) {
                return false;
            }
            into.addMark('!', 0, 0);
            return true;
        }

        private boolean readsTest(Kitchen into) {
            int letter = signAt(place);
            if (!isLetter(letter)) {
                return false;
            }
            place++;
            int related = signAt(place);
            if (related != '<' && related != '=' && related != '>') {
                return false;
            }
            place++;
            if (!readsNumber()) {
                return false;
            }
            into.addMark(letter, related, number);
            return true;
        }

        private static boolean isLetter(int sign) {
            return sign == 'p' || sign == 'k' || sign == 'v' || sign == 'l' || sign == 'c' || sign == 'b';
        }
    }

    /** Rows told by hand, of up to three numbers each. */
    private static final class Rows {
        int size = 0;
        final int[] first;
        final int[] second;
        final int[] third;

        Rows(int most) {
            int length = Math.max(0, most);
            first = new int[length];
            second = new int[length];
            third = new int[length];
        }

        int empty() {
            size = 0;
            return 0;
        }

        int add(int one, int two, int three) {
            if (!isWithin(size, 0, first.length - 1)) {
                return FULL;
            }
            first[size] = one;
            second[size] = two;
            third[size] = three;
            size++;
            return size;
        }

        /** Of rows made for as many. */
        void copyFrom(Rows other) {
            size = Math.min(other.size, first.length);
            System.arraycopy(other.first, 0, first, 0, size);
            System.arraycopy(other.second, 0, second, 0, size);
            System.arraycopy(other.third, 0, third, 0, size);
        }
    }

    /** All that is asked of what comes: it goes on a table of its own, so that asking changes nothing. */
    private static final class Foresight {
        private static final int MORE_THAN_ANY = FURTHEST + 1;

        private final Table now;
        private final Table ahead;

        Foresight(Table present, Table spare) {
            now = present;
            ahead = spare;
        }

        void begin() {
            ahead.copyFrom(now);
        }

        Table after(int n) {
            begin();
            ahead.go(n);
            return ahead;
        }

        int settlesBy(int last, int notByThen) {
            for (int n = 0; n <= last; n++) {
                if (n > 0) {
                    ahead.beatGoes();
                }
                if (ahead.isSettled()) {
                    return n;
                }
            }
            return notByThen;
        }

        int wakesBy(int last, int notByThen) {
            for (int n = 0; n <= last; n++) {
                if (n > 0) {
                    ahead.beatGoes();
                }
                if (ahead.isAwake()) {
                    return n;
                }
            }
            return notByThen;
        }

        int bestChangeOfSeats() {
            begin();
            int least = settlesBy(FURTHEST, MORE_THAN_ANY);
            int two = NOBODY;
            for (int i = 0; i < now.players; i++) {
                for (int j = i + 1; j < now.players; j++) {
                    begin();
                    ahead.seat[i] = now.seat[j];
                    ahead.seat[j] = now.seat[i];
                    // Only what is less than the least so far is of use.
                    int settles = settlesBy(least - 1, MORE_THAN_ANY);
                    if (settles < least) {
                        least = settles;
                        two = 10 * i + j;
                    }
                }
            }
            return two;
        }

        int bestToBeStill() {
            begin();
            int greatest = wakesBy(FURTHEST, MORE_THAN_ANY);
            int who = NOBODY;
            for (int i = 0; i < now.players; i++) {
                if (now.isStill(i)) {
                    continue;
                }
                begin();
                ahead.keepStill(i, true);
                int wakes = wakesBy(FURTHEST, MORE_THAN_ANY);
                if (wakes > greatest) {
                    greatest = wakes;
                    who = i;
                }
            }
            return who;
        }

        int leastQuick(int player) {
            for (int pace = 10; pace <= MOST_PACE; pace += 10) {
                begin();
                ahead.pace[player] = pace;
                if (settlesBy(FURTHEST_QUICK, NOBODY) != NOBODY) {
                    return pace;
                }
            }
            return NOBODY;
        }

        int richest(int last) {
            begin();
            int most = ahead.earned;
            int behind = 0;
            for (int n = 1; n <= last; n++) {
                ahead.beatGoes();
                if (ahead.earned > most) {
                    most = ahead.earned;
                    behind = n;
                }
            }
            return behind;
        }

        int whoCanBeStill(Rows seen) {
            int bits = 0;
            for (int i = 0; i < now.players; i++) {
                begin();
                ahead.keepStill(i, true);
                if (allIsSo(seen)) {
                    bits |= 1 << i;
                }
            }
            return bits;
        }

        /** By how many numbers for LOUD all of SEEN is so, or the least of them. */
        int soLoud(int player, Rows seen, boolean isLeast) {
            int many = 0;
            for (int loud = 0; loud <= MOST_LOUD; loud++) {
                begin();
                ahead.loud[player] = loud;
                if (allIsSo(seen)) {
                    if (isLeast) {
                        return loud;
                    }
                    many++;
                }
            }
            return isLeast ? NOBODY : many;
        }

        private boolean allIsSo(Rows seen) {
            int last = 0;
            for (int r = 0; r < seen.size; r++) {
                last = Math.max(last, seen.third[r]);
            }
            for (int n = 0; n <= last; n++) {
                if (n > 0) {
                    ahead.beatGoes();
                }
                if (!isSoBehind(n, seen)) {
                    return false;
                }
            }
            return true;
        }

        private boolean isSoBehind(int n, Rows seen) {
            for (int r = 0; r < seen.size; r++) {
                int player = seen.first[r];
                if (seen.third[r] == n && ahead.has(player) && ahead.pace[player] != seen.second[r]) {
                    return false;
                }
            }
            return true;
        }

        /** By how many of the players being still it settles within n beats. */
        int howManySettle(int n) {
            int many = 0;
            for (int i = 0; i < now.players; i++) {
                begin();
                ahead.keepStill(i, true);
                many += settlesBy(n, NOBODY) != NOBODY ? 1 : 0;
            }
            return many;
        }

        Table behind(Rows afternoon) {
            begin();
            for (int r = 0; r < afternoon.size; r++) {
                if (afternoon.first[r] == GOES_BEAT) {
                    ahead.beatGoes();
                } else {
                    ahead.keepStill(afternoon.second[r], afternoon.first[r] == GOES_STILL);
                }
            }
            return ahead;
        }
    }

    /** The bodies of the acts, and the trace of those that ran. */
    private static final class Acts {
        static final int BEATS = 0, PLAYS = 1, TELLS = 2;
        private static final int ACTS = 3, MOST_KEPT = 20;
        /** No chain of bodies that call one another is longer than six. */
        private static final int DEEPEST = 8;
        /** The body of each kind for beats, plays, tells; 0 where it has none. */
        private static final int[] BODIES = {
            10, 11, 12,
            0, 20, 0,
            30, 0, 0,
            0, 0, 40,
            50, 51, 0,
            0, 0, 60,
            71, 70, 0
        };

        final int[] trace = new int[MOST_KEPT];
        int ran = 0;
        private int number = 0;
        private int kind = 0;
        private int v = 0;

        void forget() {
            ran = 0;
        }

        int kept() {
            return Math.min(ran, MOST_KEPT);
        }

        int begin(int player, int ofKind, int ofV, int act, int x) {
            number = player;
            kind = ofKind;
            v = ofV;
            return perform(act, kind, x, 0);
        }

        /** An act by the first body that stands at a kind or above it; super starts above the body's own kind. */
        private int perform(int act, int from, int x, int depth) {
            if (depth >= DEEPEST) {
                return 0;
            }
            int body = bodyAt(act, from);
            note(body);
            int next = depth + 1;
            switch (body) {
                case 10: return x + number;
                case 11: return perform(BEATS, kind, x, next) - v;
                case 12: return perform(PLAYS, kind, x, next) * 2;
                case 20: return perform(PLAYS, PLAYER, x, next) ^ 6;
                case 30: return perform(BEATS, PLAYER, x * 3, next);
                case 40: return perform(TELLS, PLAYER, x, next) + perform(PLAYS, kind, 1, next);
                case 50: return -perform(BEATS, DEAF, x, next);
                case 51: return perform(PLAYS, DEAF, x + 1, next);
                case 60: return perform(TELLS, EAGER, x - number, next);
                case 70: return perform(PLAYS, LITTLE, x, next) + perform(BEATS, LITTLE, 2, next);
                case 71: return perform(BEATS, LITTLE, x, next) ^ v;
                default: return 0;
            }
        }

        private static int bodyAt(int act, int from) {
            int at = from;
            for (int up = 0; up < KINDS && isWithin(at, 0, KINDS - 1); up++) {
                int place = at * ACTS + act;
                if (isWithin(place, 0, BODIES.length - 1) && BODIES[place] != 0) {
                    return BODIES[place];
                }
                at = ABOVE[at];
            }
            return 0;
        }

        private void note(int body) {
            if (isWithin(ran, 0, MOST_KEPT - 1)) {
                trace[ran] = body;
            }
            ran++;
        }
    }

    /** A row of items of one sort, or nothing. */
    private static final class Tape {
        static final int HOLDS_NOTHING = -1;
        private static final int BYTES = 0, INTS = 2, LONGS = 3;

        int sort = HOLDS_NOTHING;
        int size = 0;
        final long[] items = new long[MOST_ITEMS];

        boolean holds() {
            return sort != HOLDS_NOTHING;
        }

        int become(int ofSort, int n) {
            sort = ofSort;
            size = held(n, 0, MOST_ITEMS);
            for (int i = 0; i < size; i++) {
                items[i] = 0;
            }
            return 1;
        }

        /** The lowest bits of a number, as many as an item has. */
        long cut(long n) {
            switch (sort) {
                case BYTES: return (byte) n;
                case SHORTS: return (short) n;
                case INTS: return (int) n;
                case LONGS: return n;
                default: return n != 0 ? 1 : 0;
            }
        }

        /** Whether n items from place i on are there. */
        boolean spans(int i, int n) {
            return n >= 0 && i >= 0 && i <= size && n <= size - i;
        }
    }
}
