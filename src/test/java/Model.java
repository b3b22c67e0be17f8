import java.math.BigInteger;
import java.util.ArrayList;
import java.util.Arrays;
import java.util.HashSet;
import java.util.List;
import java.util.Set;

/** The document told again in the plainest way: rows are tried one by one, and states are copied whole. */
final class Model {
    static final int NONE = -1, UNKNOWN = -1000000001, OUTSIDE = -1000000002, NOT = -1000000003, FULL = -1000000004;

    /** All of section 2. */
    private static final class All {
        List<Integer> seats = new ArrayList<>();
        List<Integer> sits = new ArrayList<>();
        Set<Integer> shut = new HashSet<>();
        int wood, standing, moves, crimes, fines, guests;

        All copy() {
            All c = new All();
            c.seats.addAll(seats);
            c.sits.addAll(sits);
            c.shut.addAll(shut);
            c.wood = wood;
            c.standing = standing;
            c.moves = moves;
            c.crimes = crimes;
            c.fines = fines;
            c.guests = guests;
            return c;
        }

        int free(int t) {
            return seats.get(t) - sits.get(t);
        }
    }

    private String text = "";
    private boolean there = false;
    private int fine = 0;
    private List<int[]> ways = new ArrayList<>();
    private All now = new All();
    private int fault = NONE;
    private int seed = 0;
    private final List<All> undo = new ArrayList<>();
    private final All[] images = new All[2];
    private final int[] imageSeeds = new int[2];
    private final List<int[]> seen = new ArrayList<>();
    private final List<int[]> book = new ArrayList<>();

    int feed(int letter) {
        if (letter < 0 || letter > 255) return OUTSIDE;
        if (text.length() == 240) return FULL;
        text += (char) letter;
        return text.length();
    }

    /** Letter by letter: each letter is held against what may stand there; the least place wins. */
    int realm() {
        String read = text;
        text = "";
        Text t = new Text(read);
        t.read();
        if (t.fault != 0) {
            fault = t.place;
            return -10 - t.fault;
        }
        fault = NONE;
        now = new All();
        there = t.words > 0;
        fine = t.fine;
        now.wood = t.wood;
        now.seats.addAll(t.seats);
        now.sits.addAll(t.sits);
        ways = t.ways;
        seen.clear();
        book.clear();
        undo.clear();
        images[0] = null;
        images[1] = null;
        return tables();
    }

    private static final class Text {
        final String text;
        int fault = 0, place = NONE, words = 0, fine = 0, wood = 0;
        List<Integer> seats = new ArrayList<>(), sits = new ArrayList<>();
        List<int[]> ways = new ArrayList<>();
        private char word = 0;
        private String first = "", second = "";
        private int firstAt, secondAt;
        /** 0 a word is due, 1 before a number, 2 in it, 3 between, 4 in the second, 5 behind it. */
        private int phase = 0;

        Text(String text) {
            this.text = text;
        }

        void read() {
            for (int i = 0; i <= text.length() && fault == 0; i++) {
                if (i < text.length()) letter(text.charAt(i), i); else end(i);
            }
        }

        private void end(int i) {
            if (phase == 2) firstDone();
            if (phase == 4) secondDone();
            if (phase != 0) set(1, i);
        }

        private void letter(char c, int i) {
            boolean figure = "0123456789".indexOf(c) >= 0;
            if (phase == 2 && !figure) {
                firstDone();
                phase = 3;
            }
            if (phase == 4 && !figure) {
                secondDone();
                phase = 5;
            }
            if (c == ' ') return;
            if (phase == 0) {
                word(c, i);
            } else if (phase == 1 && figure) {
                firstAt = i;
                first = "" + c;
                phase = 2;
            } else if (phase == 2) {
                first += c;
            } else if (phase == 3 && figure) {
                secondAt = i;
                second = "" + c;
                phase = 4;
            } else if (phase == 4) {
                second += c;
            } else if (phase == 5 && c == ';') {
                done();
            } else {
                set(1, i);
            }
        }

        private void word(char c, int i) {
            if ("rtw".indexOf(c) < 0 || (words == 0 && c != 'r')) set(1, i);
            else if (c == 'r' && words > 0 || c == 't' && seats.size() == 9 || c == 'w' && ways.size() == 14) set(3, i);
            word = c;
            words++;
            phase = 1;
        }

        private boolean told(String number, int least, int most) {
            if (number.length() > 3) return false;
            int v = Integer.parseInt(number);
            return least <= v && v <= most;
        }

        private void firstDone() {
            boolean good = word == 'r' ? told(first, 0, 99) : word == 't' ? told(first, 1, 12) : told(first, 0, seats.size() - 1);
            if (!good) set(2, firstAt);
        }

        private void secondDone() {
            if (fault != 0) return;
            int one = Integer.parseInt(first);
            boolean good = word == 'r' ? told(second, 0, 99) : word == 't' ? told(second, 0, one) : told(second, 0, seats.size() - 1);
            if (!good) {
                set(2, secondAt);
                return;
            }
            int two = Integer.parseInt(second);
            if (word == 'w') {
                if (one == two) set(4, secondAt);
                for (int[] w : ways) {
                    if (Set.of(w[0], w[1]).contains(one) && Set.of(w[0], w[1]).contains(two)) set(4, secondAt);
                }
            }
        }

        private void done() {
            int one = Integer.parseInt(first);
            int two = Integer.parseInt(second);
            if (word == 'r') {
                fine = one;
                wood = two;
            } else if (word == 't') {
                seats.add(one);
                sits.add(two);
            } else {
                ways.add(new int[] {one, two});
            }
            phase = 0;
        }

        private void set(int number, int where) {
            if (fault == 0) {
                fault = number;
                place = where;
            }
        }
    }

    int fault() {
        return fault;
    }

    private int tables() {
        return now.seats.size();
    }

    private boolean unknown(int t) {
        return t < 0 || t >= tables();
    }

    private boolean joined(All all, int a, int b) {
        for (int w = 0; w < ways.size(); w++) {
            int[] ends = ways.get(w);
            boolean both = ends[0] == a && ends[1] == b || ends[0] == b && ends[1] == a;
            if (both && !all.shut.contains(w)) return true;
        }
        return false;
    }

    /** The first of the shortest rows, or null: rows of one table are tried, then of two, and so on. */
    private List<Integer> chainOf(All all, int t) {
        for (int length = 1; length <= tables(); length++) {
            List<Integer> row = new ArrayList<>(List.of(t));
            if (extend(all, row, length)) return row;
        }
        return null;
    }

    private boolean extend(All all, List<Integer> row, int length) {
        int last = row.get(row.size() - 1);
        boolean roomy = all.free(last) >= 2;
        if (row.size() == length) return roomy;
        if (roomy) return false;
        for (int u = 0; u < tables(); u++) {
            if (joined(all, last, u)) {
                row.add(u);
                if (extend(all, row, length)) return true;
                row.remove(row.size() - 1);
            }
        }
        return false;
    }

    private List<Integer> together(int t) {
        List<Integer> found = new ArrayList<>(List.of(t));
        for (int i = 0; i < found.size(); i++) {
            for (int u = 0; u < tables(); u++) {
                if (joined(now, found.get(i), u) && !found.contains(u)) found.add(u);
            }
        }
        return found;
    }

    int told(int what) {
        switch (what) {
            case 0: return fine;
            case 1: return now.wood;
            case 2: return tables();
            case 3: return ways.size();
            case 4: return text.length();
            case 5: return now.sits.stream().mapToInt(Integer::intValue).sum();
            case 6: return now.standing;
            case 7: return now.moves;
            case 8: return now.crimes;
            case 9: return now.fines;
            case 10: return now.guests;
            case 11: {
                int set = 0;
                for (int t = 0; t < tables(); t++) if (!(now.free(t) >= 1)) set += 1 << t;
                return set;
            }
            case 12: {
                int set = 0;
                for (int t = 0; t < tables(); t++) if (chainOf(now, t) == null) set += 1 << t;
                return set;
            }
            case 13: return now.shut.stream().mapToInt(w -> 1 << w).sum();
            case 14: return seen.size();
            case 15: return book.size();
            case 16: return undo.size();
            default: return OUTSIDE;
        }
    }

    int table(int t, int what) {
        if (unknown(t)) return UNKNOWN;
        if (what < 0 || what > 3) return OUTSIDE;
        if (what == 0) return now.seats.get(t);
        if (what == 1) return now.sits.get(t);
        if (what == 2) return now.free(t);
        int set = 0;
        for (int u = 0; u < tables(); u++) if (joined(now, t, u)) set += 1 << u;
        return set;
    }

    int way(int w, int what) {
        if (w < 0 || w >= ways.size()) return UNKNOWN;
        if (what < 0 || what > 2) return OUTSIDE;
        return what == 2 ? (now.shut.contains(w) ? 1 : 0) : ways.get(w)[what];
    }

    private void done() {
        undo.add(now.copy());
        if (undo.size() > 20) undo.remove(0);
    }

    private int comes(All all, int t) {
        all.guests++;
        List<Integer> chain = chainOf(all, t);
        if (chain != null) {
            // He sits, and one after the other moves up.
            all.sits.set(t, all.sits.get(t) + 1);
            for (int i = 0; i + 1 < chain.size(); i++) {
                all.sits.set(chain.get(i), all.sits.get(chain.get(i)) - 1);
                all.sits.set(chain.get(i + 1), all.sits.get(chain.get(i + 1)) + 1);
                all.moves++;
            }
            return chain.size() - 1;
        }
        if (all.free(t) == 1) {
            all.sits.set(t, all.sits.get(t) + 1);
            all.crimes++;
            all.fines = Math.min(999999, all.fines + fine);
            return -2;
        }
        all.standing++;
        return -3;
    }

    int come(int t) {
        if (unknown(t)) return UNKNOWN;
        if (now.guests > 9000) return FULL;
        done();
        return comes(now, t);
    }

    int go(int t) {
        if (unknown(t)) return UNKNOWN;
        if (now.sits.get(t) == 0) return NOT;
        done();
        now.sits.set(t, now.sits.get(t) - 1);
        return now.sits.get(t);
    }

    int build(int t) {
        if (unknown(t)) return UNKNOWN;
        if (now.wood == 0 || now.seats.get(t) == 20) return NOT;
        done();
        now.wood--;
        now.seats.set(t, now.seats.get(t) + 1);
        return now.seats.get(t);
    }

    int breakOne(int t) {
        if (unknown(t)) return UNKNOWN;
        if (now.free(t) == 0) return NOT;
        done();
        now.seats.set(t, now.seats.get(t) - 1);
        return now.seats.get(t);
    }

    int shut(int w, boolean is) {
        if (w < 0 || w >= ways.size()) return UNKNOWN;
        done();
        int was = now.shut.contains(w) ? 1 : 0;
        if (is) now.shut.add(w); else now.shut.remove(w);
        return was;
    }

    private int draw(int n) {
        BigInteger next = BigInteger.valueOf(seed).multiply(BigInteger.valueOf(1103515245)).add(BigInteger.valueOf(12345));
        seed = next.mod(BigInteger.TWO.pow(31)).intValueExact();
        return seed / 65536 % n;
    }

    int drift(int n) {
        if (n < 1 || n > 60) return OUTSIDE;
        if (!there) return NOT;
        if (now.guests > 9000) return FULL;
        done();
        for (int i = 0; i < n && tables() > 0; i++) {
            int t = draw(tables());
            int d = draw(3);
            if (d > 0) comes(now, t);
            else if (now.sits.get(t) > 0) now.sits.set(t, now.sits.get(t) - 1);
        }
        return told(5);
    }

    int undo() {
        if (undo.isEmpty()) return NOT;
        now = undo.remove(undo.size() - 1);
        return undo.size();
    }

    int chain(int t, int i) {
        if (unknown(t)) return UNKNOWN;
        List<Integer> chain = chainOf(now, t);
        if (chain == null || i < NONE || i >= chain.size()) return NONE;
        return i == NONE ? chain.size() - 1 : chain.get(i);
    }

    /** Guests come one by one wherever there is a chain, until there is none. */
    int more(int t) {
        if (unknown(t)) return UNKNOWN;
        List<Integer> there = together(t);
        All all = now.copy();
        int count = 0;
        for (boolean came = true; came;) {
            came = false;
            for (int u : there) {
                if (chainOf(all, u) != null) {
                    comes(all, u);
                    count++;
                    came = true;
                    break;
                }
            }
        }
        return count;
    }

    int far(int what) {
        if (what < 0 || what > 1) return OUTSIDE;
        int most = NONE;
        int table = NONE;
        for (int t = 0; t < tables(); t++) {
            List<Integer> chain = chainOf(now, t);
            if (chain == null) return what == 0 ? NONE : t;
            if (chain.size() - 1 > most) {
                most = chain.size() - 1;
                table = t;
            }
        }
        return what == 0 ? most : table;
    }

    int two(int t, int u, int what) {
        if (unknown(t) || unknown(u)) return UNKNOWN;
        if (what < 0 || what > 1) return OUTSIDE;
        int[] moves = new int[2];
        for (int order = 0; order < 2; order++) {
            All all = now.copy();
            int[] guests = order == 0 ? new int[] {t, u} : new int[] {u, t};
            for (int g : guests) {
                int answer = comes(all, g);
                moves[order] += answer < 0 ? 1000 : answer;
            }
        }
        if (what == 0) return moves[1] < moves[0] ? 1 : 0;
        return Math.min(moves[0], moves[1]);
    }

    /** Every way to deal chairs out is tried, the greater number at the lesser table first. */
    int chairs(int set, int m, int t) {
        for (int k = 0; k < 32; k++) if ((set >>> k & 1) == 1 && unknown(k)) return UNKNOWN;
        if (t != NONE && unknown(t)) return UNKNOWN;
        if (m < 0 || m > 8) return OUTSIDE;
        for (int chairs = 0; chairs <= 4; chairs++) {
            int[] built = new int[tables()];
            if (deal(set, m, built, 0, chairs)) return t == NONE ? chairs : built[t];
        }
        return NONE;
    }

    private boolean deal(int set, int m, int[] built, int t, int left) {
        if (t == built.length) return left == 0 && serves(set, m, built);
        for (int here = left; here >= 0; here--) {
            built[t] = here;
            if (now.seats.get(t) + here <= 20 || here == 0) {
                if (deal(set, m, built, t + 1, left - here)) return true;
            }
        }
        return false;
    }

    private boolean serves(int set, int m, int[] built) {
        All all = now.copy();
        for (int t = 0; t < built.length; t++) all.seats.set(t, all.seats.get(t) + built[t]);
        int[] steps = new int[built.length];
        Arrays.fill(steps, 99);
        for (int t = 0; t < built.length; t++) if (all.free(t) >= 2) steps[t] = 0;
        for (int again = 0; again < built.length; again++) {
            for (int i = 0; i < ways.size(); i++) {
                if (!all.shut.contains(i)) {
                    int a = ways.get(i)[0];
                    int b = ways.get(i)[1];
                    steps[a] = Math.min(steps[a], steps[b] + 1);
                    steps[b] = Math.min(steps[b], steps[a] + 1);
                }
            }
        }
        for (int t = 0; t < built.length; t++) if ((set >> t & 1) == 1 && steps[t] > m) return false;
        return true;
    }

    /** As much as can be is tried first, and less until all find a seat. */
    int spread(int t) {
        if (unknown(t)) return UNKNOWN;
        for (int least = 20; least >= 0; least--) {
            int room = 0;
            int sit = 0;
            boolean can = true;
            for (int u : together(t)) {
                sit += now.sits.get(u);
                room += now.seats.get(u) - least;
                can &= now.seats.get(u) >= least;
            }
            if (can && room >= sit) return least;
        }
        throw new IllegalStateException("all sit already");
    }

    int quiet(int n, int q) {
        if (n < 0 || n > 60 || q < 0 || q > 100) return OUTSIDE;
        BigInteger odds = BigInteger.valueOf(1000000000);
        for (int i = 0; i < n; i++) odds = odds.multiply(BigInteger.valueOf(100 - q)).divide(BigInteger.valueOf(100));
        return odds.intValueExact();
    }

    int see(int t, boolean moved) {
        if (unknown(t)) return UNKNOWN;
        if (seen.size() == 6) return FULL;
        seen.add(new int[] {t, moved ? 1 : 0});
        return seen.size();
    }

    private boolean movesUp(List<Integer> chain, int t) {
        return chain.subList(0, chain.size() - 1).contains(t);
    }

    private List<Integer> fitting() {
        List<Integer> all = new ArrayList<>();
        for (int t = 0; t < tables(); t++) {
            List<Integer> chain = chainOf(now, t);
            boolean fits = chain != null;
            for (int[] s : seen) fits = fits && movesUp(chain, s[0]) == (s[1] == 1);
            if (fits) all.add(t);
        }
        return all;
    }

    int came() {
        int set = 0;
        for (int t : fitting()) set += 1 << t;
        return set;
    }

    int look() {
        List<Integer> all = fitting();
        int best = NONE;
        int least = Integer.MAX_VALUE;
        for (int u = 0; u < tables(); u++) {
            int moved = 0;
            for (int t : all) if (movesUp(chainOf(now, t), u)) moved++;
            if (moved == 0 || moved == all.size()) continue;
            int part = Math.max(moved, all.size() - moved);
            if (part < least) {
                least = part;
                best = u;
            }
        }
        return best;
    }

    int write(int t, int sit) {
        if (unknown(t)) return UNKNOWN;
        if (sit < 0 || sit > 20) return OUTSIDE;
        if (book.size() == 15) return FULL;
        book.add(new int[] {t, sit});
        return book.size();
    }

    int tear() {
        int both = seen.size() + book.size();
        seen.clear();
        book.clear();
        return both;
    }

    int judge() {
        for (int i = 0; i < book.size(); i++) if (now.sits.get(book.get(i)[0]) != book.get(i)[1]) return i;
        return NONE;
    }

    int seed(int v) {
        if (v < 0) return OUTSIDE;
        int was = seed;
        seed = v;
        return was;
    }

    int keep(int i) {
        if (i < 0 || i > 1) return UNKNOWN;
        images[i] = now.copy();
        imageSeeds[i] = seed;
        undo.clear();
        return 1;
    }

    int goBack(int i) {
        if (i < 0 || i > 1) return UNKNOWN;
        if (images[i] == null) return NOT;
        now = images[i].copy();
        seed = imageSeeds[i];
        undo.clear();
        return 1;
    }
}
