/**
 * A realm of tables where one place stays free: who comes, who moves up, what is tried and seen.
 * The document ../shared/DOC.md says what each call answers; its words are used here as it uses them.
 * All rows are made with the object and used again, so that no later call makes another.
 */
public final class FreePlace {
    public static final int NONE = -1, UNKNOWN = -1000000001, OUTSIDE = -1000000002, NOT = -1000000003, FULL = -1000000004;

    private static final int MOST_LETTERS = 240;
    private static final int MOST_TABLES = 9;
    private static final int MOST_WAYS = 14;
    private static final int MOST_TOLD_SEATS = 12;
    private static final int MOST_SEATS = 20;
    private static final int MOST_FINES = 999999;
    private static final int MOST_GUESTS = 9000;
    private static final int MOST_BUILT = 4;
    private static final int MOST_MOVES_ASKED = 8;
    private static final int MOST_SEEN = 6;
    private static final int MOST_ENTRIES = 15;
    private static final int MOST_UNDONE = 20;
    private static final int MOST_DRAWS = 60;
    private static final int MOST_HOURS = 60;
    private static final int IMAGES = 2;
    private static final int HUNDRED = 100;
    private static final int NO_CHAIN_COUNTS = 1000;
    private static final long BILLION = 1000000000L;

    private static final int CRIME = -2;
    private static final int STANDS = -3;

    private static final int CANNOT_STAND = 1;
    private static final int BAD_NUMBER = 2;
    private static final int ONE_TOO_MANY = 3;
    private static final int BAD_WAY = 4;

    private final Reader reader = new Reader();
    private final Realm realm = new Realm();
    private final State now = new State();
    private final Chains chains = new Chains();
    private final Acts acts = new Acts();
    private final Trials trials = new Trials();
    private final Sights sights = new Sights();
    private final Book book = new Book();
    private final Draws draws = new Draws();
    private final History history = new History();
    private final Images images = new Images();

    public FreePlace() {
    }

    // ---- the realm

    public int feed(int letter) {
        if (letter < 0 || letter > 255) {
            return OUTSIDE;
        }
        if (!reader.add(letter)) {
            return FULL;
        }
        return reader.length;
    }

    public int realm() {
        if (!reader.reads()) {
            return -10 - reader.fault;
        }
        realm.becomes(reader.draft);
        now.begins(realm);
        sights.forget();
        book.forget();
        history.forget();
        images.forget();
        return realm.tables;
    }

    public int fault() {
        return reader.place;
    }

    public int told(int what) {
        switch (what) {
            case 0: return realm.fine;
            case 1: return now.wood;
            case 2: return realm.tables;
            case 3: return realm.ways;
            case 4: return reader.length;
            case 5: return now.sitting();
            case 6: return now.standing;
            case 7: return now.moves;
            case 8: return now.crimes;
            case 9: return now.fines;
            case 10: return now.guests;
            case 11: return now.withFreeBelow(1, realm.tables);
            case 12: return emergencyNow();
            case 13: return now.shut;
            case 14: return sights.count;
            case 15: return book.count;
            case 16: return history.count;
            default: return OUTSIDE;
        }
    }

    public int table(int t, int what) {
        if (!realm.hasTable(t)) {
            return UNKNOWN;
        }
        switch (what) {
            case 0: return now.seats[t];
            case 1: return now.sits[t];
            case 2: return now.free(t);
            case 3: return joinedNow(t);
            default: return OUTSIDE;
        }
    }

    private int emergencyNow() {
        chains.measure(realm, now);
        return chains.withoutChain();
    }

    private int joinedNow(int t) {
        chains.join(realm, now.shut);
        return chains.around(1 << t);
    }

    public int way(int w, int what) {
        if (!realm.hasWay(w)) {
            return UNKNOWN;
        }
        switch (what) {
            case 0: return realm.from[w];
            case 1: return realm.to[w];
            case 2: return now.isShut(w) ? 1 : 0;
            default: return OUTSIDE;
        }
    }

    // ---- what is done

    public int come(int t) {
        if (!realm.hasTable(t)) {
            return UNKNOWN;
        }
        if (now.guests > MOST_GUESTS) {
            return FULL;
        }
        history.push(now);
        return acts.guestComes(realm, now, t);
    }

    public int go(int t) {
        if (!realm.hasTable(t)) {
            return UNKNOWN;
        }
        if (now.sits[t] <= 0) {
            return NOT;
        }
        history.push(now);
        now.sits[t]--;
        return now.sits[t];
    }

    public int build(int t) {
        if (!realm.hasTable(t)) {
            return UNKNOWN;
        }
        if (now.wood <= 0 || now.seats[t] >= MOST_SEATS) {
            return NOT;
        }
        history.push(now);
        now.wood--;
        now.seats[t]++;
        return now.seats[t];
    }

    public int breakOne(int t) {
        if (!realm.hasTable(t)) {
            return UNKNOWN;
        }
        if (now.free(t) <= 0) {
            return NOT;
        }
        history.push(now);
        now.seats[t]--;
        return now.seats[t];
    }

    public int shut(int w, boolean is) {
        if (!realm.hasWay(w)) {
            return UNKNOWN;
        }
        int was = now.isShut(w) ? 1 : 0;
        history.push(now);
        now.setShut(w, is);
        return was;
    }

    public int drift(int n) {
        if (n < 1 || n > MOST_DRAWS) {
            return OUTSIDE;
        }
        if (!realm.there) {
            return NOT;
        }
        if (now.guests > MOST_GUESTS) {
            return FULL;
        }
        history.push(now);
        acts.drifts(realm, now, draws, n);
        return now.sitting();
    }

    public int undo() {
        if (!history.pop(now)) {
            return NOT;
        }
        return history.count;
    }

    // ---- tried

    public int chain(int t, int i) {
        if (!realm.hasTable(t)) {
            return UNKNOWN;
        }
        chains.measure(realm, now);
        return i == NONE ? chains.movesFrom(t) : chains.tableOf(t, i);
    }

    public int more(int t) {
        if (!realm.hasTable(t)) {
            return UNKNOWN;
        }
        return trials.moreGuests(realm, now, t);
    }

    public int far(int what) {
        if (what < 0 || what > 1) {
            return OUTSIDE;
        }
        chains.measure(realm, now);
        int farthest = chains.farthest();
        return what == 0 ? chains.movesFrom(farthest) : farthest;
    }

    public int two(int t, int u, int what) {
        if (!realm.hasTable(t) || !realm.hasTable(u)) {
            return UNKNOWN;
        }
        if (what < 0 || what > 1) {
            return OUTSIDE;
        }
        int toldFirst = trials.movesOfTwo(realm, now, t, u);
        int otherFirst = trials.movesOfTwo(realm, now, u, t);
        if (what == 0) {
            return otherFirst < toldFirst ? 1 : 0;
        }
        return Math.min(toldFirst, otherFirst);
    }

    public int chairs(int set, int m, int t) {
        if (!realm.hasAll(set) || (t != NONE && !realm.hasTable(t))) {
            return UNKNOWN;
        }
        if (m < 0 || m > MOST_MOVES_ASKED) {
            return OUTSIDE;
        }
        int opened = trials.opened(realm, now, set, m);
        if (opened == NONE) {
            return NONE;
        }
        return t == NONE ? now.chairsFor(opened) : now.chairsFor(opened & (1 << t));
    }

    public int spread(int t) {
        if (!realm.hasTable(t)) {
            return UNKNOWN;
        }
        return trials.leastFree(realm, now, t);
    }

    public int quiet(int n, int q) {
        if (n < 0 || n > MOST_HOURS || q < 0 || q > HUNDRED) {
            return OUTSIDE;
        }
        long odds = BILLION;
        for (int hour = 0; hour < n; hour++) {
            odds = odds * (HUNDRED - q) / HUNDRED;
        }
        return (int) odds;
    }

    // ---- what is seen

    public int see(int t, boolean moved) {
        if (!realm.hasTable(t)) {
            return UNKNOWN;
        }
        if (sights.count >= MOST_SEEN) {
            return FULL;
        }
        sights.add(t, moved);
        return sights.count;
    }

    public int came() {
        chains.measure(realm, now);
        return sights.fitting(chains);
    }

    public int look() {
        chains.measure(realm, now);
        return sights.best(chains);
    }

    public int write(int t, int sit) {
        if (!realm.hasTable(t)) {
            return UNKNOWN;
        }
        if (sit < 0 || sit > MOST_SEATS) {
            return OUTSIDE;
        }
        if (!book.add(t, sit)) {
            return FULL;
        }
        return book.count;
    }

    public int tear() {
        int both = sights.count + book.count;
        sights.forget();
        book.forget();
        return both;
    }

    public int judge() {
        return book.firstWrong(now);
    }

    // ---- draws, images

    public int seed(int v) {
        if (v < 0) {
            return OUTSIDE;
        }
        int was = draws.seed;
        draws.seed = v;
        return was;
    }

    public int keep(int i) {
        if (!images.has(i)) {
            return UNKNOWN;
        }
        images.take(i, now, draws);
        history.forget();
        return 1;
    }

    public int goBack(int i) {
        if (!images.has(i)) {
            return UNKNOWN;
        }
        if (!images.give(i, now, draws)) {
            return NOT;
        }
        history.forget();
        return 1;
    }

    /** What a text tells: the realm as it begins. */
    private static final class Realm {
        boolean there;
        int fine;
        int wood;
        int tables;
        int ways;
        final int[] seats = new int[MOST_TABLES];
        final int[] sits = new int[MOST_TABLES];
        final int[] from = new int[MOST_WAYS];
        final int[] to = new int[MOST_WAYS];

        void forget() {
            there = false;
            fine = 0;
            wood = 0;
            tables = 0;
            ways = 0;
        }

        void becomes(Realm other) {
            there = other.there;
            fine = other.fine;
            wood = other.wood;
            tables = other.tables;
            ways = other.ways;
            for (int t = 0; t < MOST_TABLES; t++) {
                seats[t] = other.seats[t];
                sits[t] = other.sits[t];
            }
            for (int w = 0; w < MOST_WAYS; w++) {
                from[w] = other.from[w];
                to[w] = other.to[w];
            }
        }

        boolean hasTable(int t) {
            return t >= 0 && t < tables;
        }

        boolean hasWay(int w) {
            return w >= 0 && w < ways;
        }

        int allTables() {
            return (1 << tables) - 1;
        }

        boolean hasAll(int set) {
            return (set & ~allTables()) == 0;
        }

        boolean joins(int a, int b) {
            for (int w = 0; w < ways; w++) {
                if ((from[w] == a && to[w] == b) || (from[w] == b && to[w] == a)) {
                    return true;
                }
            }
            return false;
        }

        void addTable(int seatsThere, int sitsThere) {
            if (tables < MOST_TABLES) {
                seats[tables] = seatsThere;
                sits[tables] = sitsThere;
                tables++;
            }
        }

        void addWay(int a, int b) {
            if (ways < MOST_WAYS) {
                from[ways] = a;
                to[ways] = b;
                ways++;
            }
        }
    }

    /** Takes a text letter by letter, and reads it into a draft as far as its first fault. */
    private static final class Reader {
        final Realm draft = new Realm();
        final char[] letters = new char[MOST_LETTERS];
        int length;
        int at;
        int numberAt;
        int fault;
        int place = NONE;

        boolean add(int letter) {
            if (length < 0 || length >= MOST_LETTERS) {
                return false;
            }
            letters[length] = (char) letter;
            length++;
            return true;
        }

        /** True, if the text has no fault; it is empty then in any case. */
        boolean reads() {
            at = 0;
            numberAt = 0;
            fault = 0;
            place = NONE;
            draft.forget();
            // Every clause takes a letter at least, so there are no more turns than letters.
            for (int turn = 0; turn <= MOST_LETTERS && fault == 0; turn++) {
                skipBlanks();
                if (at < length) {
                    readClause();
                }
            }
            length = 0;
            return fault == 0;
        }

        private void readClause() {
            int word = letterHere();
            int wrong = faultOfWord(word);
            if (wrong != 0) {
                fails(wrong, at);
                return;
            }
            at++;
            if (word == 'r') {
                readFineAndWood();
            } else if (word == 't') {
                readTable();
            } else {
                readWay();
            }
            readEnd();
        }

        private int faultOfWord(int word) {
            switch (word) {
                case 'r': return draft.there ? ONE_TOO_MANY : 0;
                case 't': return faultOfLater(draft.tables >= MOST_TABLES);
                case 'w': return faultOfLater(draft.ways >= MOST_WAYS);
                default: return CANNOT_STAND;
            }
        }

        private int faultOfLater(boolean tooMany) {
            if (!draft.there) {
                return CANNOT_STAND;
            }
            return tooMany ? ONE_TOO_MANY : 0;
        }

        private void readFineAndWood() {
            draft.there = true;
            draft.fine = number(0, 99);
            draft.wood = number(0, 99);
        }

        private void readTable() {
            int seats = number(1, MOST_TOLD_SEATS);
            int sits = number(0, seats);
            if (fault == 0) {
                draft.addTable(seats, sits);
            }
        }

        private void readWay() {
            int a = number(0, draft.tables - 1);
            int b = number(0, draft.tables - 1);
            if (fault == 0 && (a == b || draft.joins(a, b))) {
                fails(BAD_WAY, numberAt);
            }
            if (fault == 0) {
                draft.addWay(a, b);
            }
        }

        private void readEnd() {
            skipBlanks();
            if (letterHere() != ';') {
                fails(CANNOT_STAND, at);
            }
            at++;
        }

        /** The next number; a fault's answer is never used, as only the first fault counts. */
        private int number(int least, int most) {
            skipBlanks();
            numberAt = at;
            if (!isFigure(letterHere())) {
                fails(CANNOT_STAND, at);
                return least;
            }
            int value = 0;
            int figures = 0;
            while (at < length && isFigure(letterHere())) {
                figures++;
                // From the fourth figure on the value is of no matter, and must not run over.
                value = figures > 3 ? 0 : value * 10 + (letterHere() - '0');
                at++;
            }
            if (figures > 3 || value < least || value > most) {
                fails(BAD_NUMBER, numberAt);
            }
            return value;
        }

        private void skipBlanks() {
            while (at < length && letterHere() == ' ') {
                at++;
            }
        }

        private int letterHere() {
            return at >= 0 && at < length && at < MOST_LETTERS ? letters[at] : NONE;
        }

        private static boolean isFigure(int letter) {
            return letter >= '0' && letter <= '9';
        }

        private void fails(int number, int where) {
            if (fault == 0) {
                fault = number;
                place = where;
            }
        }
    }

    /** All of section 2 of the document: what is done changes it, images and undo keep it. */
    private static final class State {
        final int[] seats = new int[MOST_TABLES];
        final int[] sits = new int[MOST_TABLES];
        int wood;
        int shut;
        int standing;
        int moves;
        int crimes;
        int fines;
        int guests;

        void begins(Realm realm) {
            for (int t = 0; t < MOST_TABLES; t++) {
                boolean told = realm.hasTable(t);
                seats[t] = told ? realm.seats[t] : 0;
                sits[t] = told ? realm.sits[t] : 0;
            }
            wood = realm.wood;
            shut = 0;
            standing = 0;
            moves = 0;
            crimes = 0;
            fines = 0;
            guests = 0;
        }

        void becomes(State other) {
            for (int t = 0; t < MOST_TABLES; t++) {
                seats[t] = other.seats[t];
                sits[t] = other.sits[t];
            }
            wood = other.wood;
            shut = other.shut;
            standing = other.standing;
            moves = other.moves;
            crimes = other.crimes;
            fines = other.fines;
            guests = other.guests;
        }

        int free(int t) {
            return t >= 0 && t < MOST_TABLES ? seats[t] - sits[t] : 0;
        }

        int sitting() {
            int all = 0;
            for (int t = 0; t < MOST_TABLES; t++) {
                all += sits[t];
            }
            return all;
        }

        int withFreeBelow(int least, int tables) {
            int set = 0;
            for (int t = 0; t < tables; t++) {
                if (free(t) < least) {
                    set |= 1 << t;
                }
            }
            return set;
        }

        boolean isShut(int w) {
            return (shut >> w & 1) != 0;
        }

        void setShut(int w, boolean is) {
            shut = is ? shut | 1 << w : shut & ~(1 << w);
        }

        /** Chairs that give each table of a set two free ones; above all bounds, if one can't have them. */
        int chairsFor(int set) {
            int chairs = 0;
            for (int t = 0; t < MOST_TABLES; t++) {
                int lacking = Math.max(0, 2 - free(t));
                if ((set >> t & 1) != 0) {
                    chairs += seats[t] + lacking > MOST_SEATS ? MOST_BUILT + 1 : lacking;
                }
            }
            return chairs;
        }
    }

    /** Who is joined to whom, and the chain from each table. */
    private static final class Chains {
        int tables;
        final int[] joined = new int[MOST_TABLES];
        final int[] moves = new int[MOST_TABLES];
        final int[] next = new int[MOST_TABLES];
        final int[] movers = new int[MOST_TABLES];

        void measure(Realm realm, State state) {
            join(realm, state.shut);
            for (int t = 0; t < MOST_TABLES; t++) {
                moves[t] = NONE;
                next[t] = NONE;
                movers[t] = 0;
            }
            int ahead = 0;
            int reached = 0;
            int ring = realm.allTables() & ~state.withFreeBelow(2, tables);
            for (int step = 0; step < MOST_TABLES && ring != 0; step++) {
                link(ring, step, ahead);
                reached |= ring;
                ahead = ring;
                ring = around(ring) & ~reached;
            }
        }

        /** Of the tables a step nearer the least one is next: so a chain is the first of like ones. */
        private void link(int ring, int step, int ahead) {
            for (int t = 0; t < tables; t++) {
                if ((ring >> t & 1) == 0) {
                    continue;
                }
                moves[t] = step;
                int u = Integer.numberOfTrailingZeros(joined[t] & ahead);
                if (u < tables) {
                    next[t] = u;
                    movers[t] = movers[u] | 1 << t;
                }
            }
        }

        void join(Realm realm, int shut) {
            tables = realm.tables;
            for (int t = 0; t < MOST_TABLES; t++) {
                joined[t] = 0;
            }
            for (int w = 0; w < realm.ways; w++) {
                int a = realm.from[w];
                int b = realm.to[w];
                if ((shut >> w & 1) == 0 && realm.hasTable(a) && realm.hasTable(b)) {
                    joined[a] |= 1 << b;
                    joined[b] |= 1 << a;
                }
            }
        }

        int around(int set) {
            int found = 0;
            for (int t = 0; t < tables; t++) {
                if ((set >> t & 1) != 0) {
                    found |= joined[t];
                }
            }
            return found;
        }

        /** The tables at most so many steps from one, itself too. */
        int within(int t, int steps) {
            int set = 1 << t;
            for (int step = 0; step < steps; step++) {
                set |= around(set);
            }
            return set;
        }

        int hangingTogether(int t) {
            return within(t, MOST_TABLES - 1);
        }

        int movesFrom(int t) {
            return t >= 0 && t < tables ? moves[t] : NONE;
        }

        /** The tables of the chain that one moves up from: all but the last. */
        int moversFrom(int t) {
            return t >= 0 && t < tables ? movers[t] : 0;
        }

        int tableOf(int t, int i) {
            if (i < 0 || i > movesFrom(t)) {
                return NONE;
            }
            int here = t;
            for (int step = 0; step < i && here >= 0 && here < tables; step++) {
                here = next[here];
            }
            return here;
        }

        int withoutChain() {
            int set = 0;
            for (int t = 0; t < tables; t++) {
                if (moves[t] == NONE) {
                    set |= 1 << t;
                }
            }
            return set;
        }

        int farthest() {
            int farthest = NONE;
            for (int t = 0; t < tables; t++) {
                if (moves[t] == NONE) {
                    return t;
                }
                if (moves[t] > movesFrom(farthest)) {
                    farthest = t;
                }
            }
            return farthest;
        }
    }

    /** What guests do to a state. */
    private static final class Acts {
        final Chains chains = new Chains();

        /** The moves that were made, or how the guest was left. */
        int guestComes(Realm realm, State state, int t) {
            chains.measure(realm, state);
            state.guests++;
            int moves = chains.movesFrom(t);
            int last = chains.tableOf(t, moves);
            if (!realm.hasTable(last)) {
                return comesWithoutChain(realm, state, t);
            }
            state.sits[last]++;
            state.moves += moves;
            return moves;
        }

        private int comesWithoutChain(Realm realm, State state, int t) {
            if (state.free(t) < 1) {
                state.standing++;
                return STANDS;
            }
            state.sits[t]++;
            state.crimes++;
            state.fines = Math.min(MOST_FINES, state.fines + realm.fine);
            return CRIME;
        }

        void drifts(Realm realm, State state, Draws draws, int times) {
            if (realm.tables <= 0) {
                return;
            }
            for (int i = 0; i < times; i++) {
                int t = draws.draw(realm.tables);
                if (draws.draw(3) != 0) {
                    guestComes(realm, state, t);
                } else if (realm.hasTable(t) && state.sits[t] > 0) {
                    state.sits[t]--;
                }
            }
        }
    }

    /** What is tried from a state and leaves it as it is. */
    private static final class Trials {
        final Chains chains = new Chains();
        final Acts acts = new Acts();
        final State tried = new State();
        final int[] near = new int[MOST_TABLES];

        int moreGuests(Realm realm, State state, int t) {
            chains.join(realm, state.shut);
            int together = chains.hangingTogether(t);
            int more = 0;
            for (int u = 0; u < realm.tables; u++) {
                if ((together >> u & 1) != 0) {
                    more += Math.max(0, state.free(u) - 1);
                }
            }
            return more;
        }

        /** The free ones are dealt out evenly, but no table can have more free than seats. */
        int leastFree(Realm realm, State state, int t) {
            chains.join(realm, state.shut);
            int together = chains.hangingTogether(t);
            int free = 0;
            int count = 0;
            int leastSeats = MOST_SEATS;
            for (int u = 0; u < realm.tables; u++) {
                if ((together >> u & 1) != 0) {
                    free += state.free(u);
                    count++;
                    leastSeats = Math.min(leastSeats, state.seats[u]);
                }
            }
            return count > 0 ? Math.min(leastSeats, free / count) : 0;
        }

        int movesOfTwo(Realm realm, State state, int first, int second) {
            tried.becomes(state);
            return movesCounted(realm, first) + movesCounted(realm, second);
        }

        private int movesCounted(Realm realm, int t) {
            int moves = acts.guestComes(realm, tried, t);
            return moves < 0 ? NO_CHAIN_COUNTS : moves;
        }

        /**
         * The tables where chairs must be built, each as many as give it two free ones: in a fewest
         * building no chair stands idle, so it is told by the tables that chains end at by it.
         */
        int opened(Realm realm, State state, int set, int m) {
            chains.join(realm, state.shut);
            for (int t = 0; t < realm.tables; t++) {
                near[t] = chains.within(t, m);
            }
            int closed = state.withFreeBelow(2, realm.tables);
            int open = realm.allTables() & ~closed;
            int best = NONE;
            int fewest = MOST_BUILT + 1;
            for (int some = 0; some <= closed && fewest > 0; some++) {
                // A closed table lacks a chair at least, so more such tables than chairs need no look.
                if ((some & ~closed) != 0 || Integer.bitCount(some) > MOST_BUILT) {
                    continue;
                }
                if (!reachesAll(realm, set, open | some)) {
                    continue;
                }
                int chairs = state.chairsFor(some);
                if (chairs < fewest || (chairs == fewest && isAhead(some, best))) {
                    fewest = chairs;
                    best = some;
                }
            }
            return best;
        }

        private boolean reachesAll(Realm realm, int set, int open) {
            for (int t = 0; t < realm.tables; t++) {
                if ((set >> t & 1) != 0 && (near[t] & open) == 0) {
                    return false;
                }
            }
            return true;
        }

        /** Of like ones the first has the greater number at the first table where they differ. */
        private static boolean isAhead(int some, int other) {
            int differ = some ^ other;
            int first = differ & -differ;
            return other != NONE && (some & first) != 0;
        }
    }

    /** What is seen of one guest; the order is of no matter. */
    private static final class Sights {
        int count;
        int moved;
        int still;

        void forget() {
            count = 0;
            moved = 0;
            still = 0;
        }

        void add(int t, boolean movedUp) {
            if (movedUp) {
                moved |= 1 << t;
            } else {
                still |= 1 << t;
            }
            count++;
        }

        int fitting(Chains chains) {
            int set = 0;
            for (int t = 0; t < chains.tables; t++) {
                int movers = chains.moversFrom(t);
                if (chains.movesFrom(t) != NONE && (moved & ~movers) == 0 && (still & movers) == 0) {
                    set |= 1 << t;
                }
            }
            return set;
        }

        int best(Chains chains) {
            int fitting = fitting(chains);
            int best = NONE;
            int least = Integer.bitCount(fitting);
            for (int t = 0; t < chains.tables; t++) {
                int part = greatestPart(chains, fitting, t);
                if (part < least) {
                    least = part;
                    best = t;
                }
            }
            return best;
        }

        private static int greatestPart(Chains chains, int fitting, int lookedAt) {
            int moving = 0;
            int all = 0;
            for (int t = 0; t < chains.tables; t++) {
                if ((fitting >> t & 1) != 0) {
                    all++;
                    moving += chains.moversFrom(t) >> lookedAt & 1;
                }
            }
            return Math.max(moving, all - moving);
        }
    }

    /** The book: how many sit where, entry by entry. */
    private static final class Book {
        int count;
        final int[] tables = new int[MOST_ENTRIES];
        final int[] sits = new int[MOST_ENTRIES];

        void forget() {
            count = 0;
        }

        boolean add(int t, int sit) {
            if (count < 0 || count >= MOST_ENTRIES) {
                return false;
            }
            tables[count] = t;
            sits[count] = sit;
            count++;
            return true;
        }

        int firstWrong(State state) {
            for (int i = 0; i < count; i++) {
                int t = tables[i];
                if (t >= 0 && t < MOST_TABLES && state.sits[t] != sits[i]) {
                    return i;
                }
            }
            return NONE;
        }
    }

    /** The seed and what is drawn by it. */
    private static final class Draws {
        int seed;

        int draw(int n) {
            seed = (int) ((seed * 1103515245L + 12345L) & 0x7fffffffL);
            return n > 0 ? seed / 65536 % n : 0;
        }
    }

    /** The states that undo goes back to, the oldest written over. */
    private static final class History {
        int count;
        int next;
        final State[] states = new State[MOST_UNDONE];

        History() {
            for (int i = 0; i < MOST_UNDONE; i++) {
                states[i] = new State();
            }
        }

        void forget() {
            count = 0;
        }

        void push(State state) {
            if (next < 0 || next >= MOST_UNDONE) {
                return;
            }
            states[next].becomes(state);
            next = (next + 1) % MOST_UNDONE;
            count = Math.min(MOST_UNDONE, count + 1);
        }

        boolean pop(State state) {
            int latest = (next + MOST_UNDONE - 1) % MOST_UNDONE;
            if (count <= 0 || latest < 0 || latest >= MOST_UNDONE) {
                return false;
            }
            state.becomes(states[latest]);
            next = latest;
            count--;
            return true;
        }
    }

    /** The images: states to go on from, each with its seed. */
    private static final class Images {
        final State[] states = new State[IMAGES];
        final int[] seeds = new int[IMAGES];
        final boolean[] kept = new boolean[IMAGES];

        Images() {
            for (int i = 0; i < IMAGES; i++) {
                states[i] = new State();
            }
        }

        boolean has(int i) {
            return i >= 0 && i < IMAGES;
        }

        void forget() {
            for (int i = 0; i < IMAGES; i++) {
                kept[i] = false;
            }
        }

        void take(int i, State state, Draws draws) {
            if (has(i)) {
                states[i].becomes(state);
                seeds[i] = draws.seed;
                kept[i] = true;
            }
        }

        boolean give(int i, State state, Draws draws) {
            if (!has(i) || !kept[i]) {
                return false;
            }
            state.becomes(states[i]);
            draws.seed = seeds[i];
            return true;
        }
    }
}
