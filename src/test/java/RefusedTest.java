import java.util.function.Function;
import java.util.function.ToIntFunction;

/**
 * "REFUSALS, of several the first in this order: UNKNOWN, OUTSIDE, NOT, FULL. What is refused changes nothing."
 * Each refused call is asked of one of two like objects; then all that can be found out of both must be the same.
 */
final class RefusedTest {
    private static final Check CHECK = new Check("RefusedTest");
    private static final int NONE = FreePlace.NONE;
    private static final int UNKNOWN = FreePlace.UNKNOWN;
    private static final int OUTSIDE = FreePlace.OUTSIDE;
    private static final int NOT = FreePlace.NOT;
    private static final int FULL = FreePlace.FULL;
    private static final int LEAST = Integer.MIN_VALUE;
    private static final int MOST = Integer.MAX_VALUE;
    private static final int[] NO_TABLE_OF_THREE = {-1, 3, 9, 31, 32, LEAST, MOST};
    private static final int[] NO_WAY_OF_TWO = {-1, 2, 14, 32, LEAST, MOST};
    private static final int[] NO_IMAGE = {-1, 2, LEAST, MOST};

    private RefusedTest() {
    }

    public static void main(String[] args) {
        theNumbers();
        feed();
        told();
        table();
        way();
        come();
        go();
        build();
        breakOne();
        shut();
        drift();
        undo();
        chain();
        more();
        far();
        two();
        chairs();
        spread();
        quiet();
        see();
        write();
        seed();
        keep();
        goBack();
        CHECK.close();
    }

    /** That a call is refused so, and that its object goes on like one that was never asked. */
    private static void refused(String call, Lived.Maker maker, int due, ToIntFunction<FreePlace> asks) {
        goesOn(call, maker, due, asks, Check::picture);
        goesOn(call, maker, due, asks, RefusedTest::tried);
        goesOn(call, maker, due, asks, RefusedTest::undone);
        goesOn(call, maker, due, asks, x -> images(x, 0, 1));
        goesOn(call, maker, due, asks, x -> images(x, 1, 0));
        goesOn(call, maker, due, asks, RefusedTest::books);
        goesOn(call, maker, due, asks, RefusedTest::textAndSeed);
        goesOn(call, maker, due, asks, RefusedTest::acts);
    }

    private static void goesOn(String call, Lived.Maker maker, int due, ToIntFunction<FreePlace> asks,
            Function<FreePlace, String> findsOut) {
        FreePlace asked = maker.make();
        CHECK.due(call, asks.applyAsInt(asked), due);
        String found = findsOut.apply(asked);
        String without = findsOut.apply(maker.make());
        CHECK.due(call + " changed " + without + " to " + found, found.equals(without) ? 1 : 0, 1);
    }

    private static String tried(FreePlace x) {
        StringBuilder all = new StringBuilder();
        all.append(x.far(0)).append(' ').append(x.far(1)).append(' ').append(x.look()).append(' ').append(x.came());
        int tables = x.told(2);
        for (int t = 0; t < tables; t++) {
            all.append('|').append(x.more(t)).append(' ').append(x.spread(t)).append(' ').append(x.chairs(1 << t, 0, NONE));
            for (int i = NONE; i <= tables; i++) {
                all.append(' ').append(x.chain(t, i));
            }
            all.append(' ').append(x.two(t, 0, 0)).append(' ').append(x.two(0, t, 1));
        }
        return all.append(' ').append(x.quiet(3, 30)).toString();
    }

    private static String undone(FreePlace x) {
        StringBuilder all = new StringBuilder();
        int left = x.undo();
        while (left != NOT) {
            all.append(left).append(": ").append(Check.state(x)).append("; ");
            left = x.undo();
        }
        return all.append(x.seed(1)).toString();
    }

    private static String images(FreePlace x, int first, int second) {
        StringBuilder all = new StringBuilder();
        all.append(x.goBack(first)).append(": ").append(Check.state(x)).append(' ').append(x.seed(1)).append("; ");
        all.append(x.goBack(second)).append(": ").append(Check.state(x)).append(' ').append(x.seed(2));
        return all.toString();
    }

    private static String books(FreePlace x) {
        StringBuilder all = new StringBuilder();
        all.append(x.came()).append(' ').append(x.judge()).append(' ').append(x.look());
        all.append(' ').append(x.write(0, 3)).append(' ').append(x.judge());
        all.append(' ').append(x.see(1, true)).append(' ').append(x.came());
        return all.append(' ').append(x.tear()).append(' ').append(x.came()).append(' ').append(x.judge()).toString();
    }

    private static String textAndSeed(FreePlace x) {
        StringBuilder all = new StringBuilder();
        all.append(x.fault()).append(' ').append(x.told(4)).append(' ').append(x.seed(9)).append(' ').append(x.seed(8));
        Check.feed(x, "1;t5 5;w0 1;q");
        all.append(' ').append(x.told(4)).append(' ').append(x.realm()).append(' ').append(x.fault());
        return all.append(' ').append(x.told(4)).append(' ').append(Check.picture(x)).toString();
    }

    private static String acts(FreePlace x) {
        StringBuilder all = new StringBuilder();
        all.append(x.build(0)).append(' ').append(x.come(0)).append(' ').append(x.come(1)).append(' ').append(x.go(0));
        all.append(' ').append(x.breakOne(1)).append(' ').append(x.shut(0, true)).append(' ').append(x.drift(9));
        return all.append(' ').append(Check.picture(x)).append(' ').append(undone(x)).toString();
    }

    private static void theNumbers() {
        CHECK.due("NONE", NONE, -1);
        CHECK.due("UNKNOWN", UNKNOWN, -1000000001);
        CHECK.due("OUTSIDE", OUTSIDE, -1000000002);
        CHECK.due("NOT", NOT, -1000000003);
        CHECK.due("FULL", FULL, -1000000004);
    }

    private static void feed() {
        for (int letter : new int[] {-1, 256, LEAST, MOST}) {
            refused("feed(" + letter + ")", Lived::rich, OUTSIDE, x -> x.feed(letter));
            refused("feed(" + letter + ") to a full text: OUTSIDE is ahead", Lived::fullText, OUTSIDE, x -> x.feed(letter));
        }
        for (int letter : new int[] {0, ';', 255}) {
            refused("feed(" + letter + ") to a full text", Lived::fullText, FULL, x -> x.feed(letter));
        }
    }

    private static void told() {
        for (int what : new int[] {-1, 17, LEAST, MOST}) {
            refused("told(" + what + ")", Lived::rich, OUTSIDE, x -> x.told(what));
        }
    }

    private static void table() {
        for (int t : NO_TABLE_OF_THREE) {
            refused("table(" + t + ", 0)", Lived::rich, UNKNOWN, x -> x.table(t, 0));
            refused("table(" + t + ", 4): UNKNOWN is ahead", Lived::rich, UNKNOWN, x -> x.table(t, 4));
        }
        for (int what : new int[] {-1, 4, LEAST, MOST}) {
            refused("table(2, " + what + ")", Lived::rich, OUTSIDE, x -> x.table(2, what));
        }
        refused("table(0, 0) of no realm", Lived::noRealm, UNKNOWN, x -> x.table(0, 0));
        refused("table(0, 0) of no tables", Lived::noTables, UNKNOWN, x -> x.table(0, 0));
    }

    private static void way() {
        for (int w : NO_WAY_OF_TWO) {
            refused("way(" + w + ", 0)", Lived::rich, UNKNOWN, x -> x.way(w, 0));
            refused("way(" + w + ", 3): UNKNOWN is ahead", Lived::rich, UNKNOWN, x -> x.way(w, 3));
        }
        for (int what : new int[] {-1, 3, LEAST, MOST}) {
            refused("way(1, " + what + ")", Lived::rich, OUTSIDE, x -> x.way(1, what));
        }
        refused("way(0, 0) of no realm", Lived::noRealm, UNKNOWN, x -> x.way(0, 0));
    }

    private static void come() {
        for (int t : NO_TABLE_OF_THREE) {
            refused("come(" + t + ")", Lived::rich, UNKNOWN, x -> x.come(t));
        }
        refused("come(0) to no realm", Lived::noRealm, UNKNOWN, x -> x.come(0));
        refused("come(0) to no tables", Lived::noTables, UNKNOWN, x -> x.come(0));
        refused("come(0) behind 9001", Lived::guests9001, FULL, x -> x.come(0));
        refused("come(1) behind 9001", Lived::guests9001, FULL, x -> x.come(1));
        refused("come(2) behind 9001: UNKNOWN is ahead", Lived::guests9001, UNKNOWN, x -> x.come(2));
    }

    private static void go() {
        for (int t : NO_TABLE_OF_THREE) {
            refused("go(" + t + ")", Lived::rich, UNKNOWN, x -> x.go(t));
        }
        refused("go(2), nobody is there", Lived::plain, NOT, x -> x.go(2));
        refused("go(2), nobody is left", Lived::bare, NOT, x -> x.go(2));
        refused("go(0) of no realm", Lived::noRealm, UNKNOWN, x -> x.go(0));
    }

    private static void build() {
        for (int t : NO_TABLE_OF_THREE) {
            refused("build(" + t + ")", Lived::rich, UNKNOWN, x -> x.build(t));
            refused("build(" + t + ") without WOOD: UNKNOWN is ahead", Lived::bare, UNKNOWN, x -> x.build(t));
        }
        for (int t = 0; t < 3; t++) {
            int there = t;
            refused("build(" + t + ") without WOOD", Lived::bare, NOT, x -> x.build(there));
        }
        refused("build(0) at 20 SEATS", Lived::twentySeats, NOT, x -> x.build(0));
        refused("build(0) in no realm", Lived::noRealm, UNKNOWN, x -> x.build(0));
        refused("build(0) at no tables", Lived::noTables, UNKNOWN, x -> x.build(0));
    }

    private static void breakOne() {
        for (int t : NO_TABLE_OF_THREE) {
            refused("breakOne(" + t + ")", Lived::rich, UNKNOWN, x -> x.breakOne(t));
        }
        refused("breakOne(1), none is FREE", Lived::plain, NOT, x -> x.breakOne(1));
        refused("breakOne(0), none is left FREE", Lived::bare, NOT, x -> x.breakOne(0));
        refused("breakOne(0) in no realm", Lived::noRealm, UNKNOWN, x -> x.breakOne(0));
    }

    private static void shut() {
        for (int w : NO_WAY_OF_TWO) {
            refused("shut(" + w + ", true)", Lived::rich, UNKNOWN, x -> x.shut(w, true));
            refused("shut(" + w + ", false)", Lived::rich, UNKNOWN, x -> x.shut(w, false));
        }
        refused("shut(0, true) in no realm", Lived::noRealm, UNKNOWN, x -> x.shut(0, true));
        refused("shut(0, true) of no ways", Lived::twentySeats, UNKNOWN, x -> x.shut(0, true));
    }

    private static void drift() {
        for (int n : new int[] {0, -1, 61, LEAST, MOST}) {
            refused("drift(" + n + ")", Lived::rich, OUTSIDE, x -> x.drift(n));
            refused("drift(" + n + ") in no realm: OUTSIDE is ahead", Lived::noRealm, OUTSIDE, x -> x.drift(n));
        }
        refused("drift(61) behind 9001: OUTSIDE is ahead", Lived::guests9001, OUTSIDE, x -> x.drift(61));
        refused("drift(0) behind 9001: OUTSIDE is ahead", Lived::guests9001, OUTSIDE, x -> x.drift(0));
        refused("drift(1) in no realm", Lived::noRealm, NOT, x -> x.drift(1));
        refused("drift(60) in no realm", Lived::noRealm, NOT, x -> x.drift(60));
        refused("drift(1) behind 9001", Lived::guests9001, FULL, x -> x.drift(1));
        refused("drift(60) behind 9001", Lived::guests9001, FULL, x -> x.drift(60));
    }

    private static void undo() {
        refused("undo() of a new realm", Lived::plain, NOT, FreePlace::undo);
        refused("undo() behind keep", Lived::oneImage, NOT, FreePlace::undo);
        refused("undo() of no realm", Lived::noRealm, NOT, FreePlace::undo);
    }

    private static void chain() {
        for (int t : NO_TABLE_OF_THREE) {
            refused("chain(" + t + ", NONE)", Lived::rich, UNKNOWN, x -> x.chain(t, NONE));
            refused("chain(" + t + ", 0)", Lived::rich, UNKNOWN, x -> x.chain(t, 0));
            refused("chain(" + t + ", -2)", Lived::rich, UNKNOWN, x -> x.chain(t, -2));
        }
        refused("chain(0, NONE) of no realm", Lived::noRealm, UNKNOWN, x -> x.chain(0, NONE));
    }

    private static void more() {
        for (int t : NO_TABLE_OF_THREE) {
            refused("more(" + t + ")", Lived::rich, UNKNOWN, x -> x.more(t));
        }
        refused("more(0) of no realm", Lived::noRealm, UNKNOWN, x -> x.more(0));
    }

    private static void far() {
        for (int what : new int[] {-1, 2, LEAST, MOST}) {
            refused("far(" + what + ")", Lived::rich, OUTSIDE, x -> x.far(what));
            refused("far(" + what + ") of no tables", Lived::noTables, OUTSIDE, x -> x.far(what));
            refused("far(" + what + ") of no realm", Lived::noRealm, OUTSIDE, x -> x.far(what));
        }
    }

    private static void two() {
        for (int t : NO_TABLE_OF_THREE) {
            refused("two(" + t + ", 0, 0)", Lived::rich, UNKNOWN, x -> x.two(t, 0, 0));
            refused("two(0, " + t + ", 0)", Lived::rich, UNKNOWN, x -> x.two(0, t, 0));
            refused("two(0, " + t + ", 2): UNKNOWN is ahead", Lived::rich, UNKNOWN, x -> x.two(0, t, 2));
            refused("two(" + t + ", 0, -1): UNKNOWN is ahead", Lived::rich, UNKNOWN, x -> x.two(t, 0, -1));
        }
        for (int what : new int[] {-1, 2, LEAST, MOST}) {
            refused("two(0, 2, " + what + ")", Lived::rich, OUTSIDE, x -> x.two(0, 2, what));
        }
        refused("two(0, 0, 0) of no realm", Lived::noRealm, UNKNOWN, x -> x.two(0, 0, 0));
    }

    private static void chairs() {
        for (int set : new int[] {8, 15, 512, 1 << 30, -1, LEAST, MOST}) {
            refused("chairs(" + set + ", 0, NONE)", Lived::rich, UNKNOWN, x -> x.chairs(set, 0, NONE));
            refused("chairs(" + set + ", 9, NONE): UNKNOWN is ahead", Lived::rich, UNKNOWN, x -> x.chairs(set, 9, NONE));
        }
        for (int t : new int[] {-2, 3, 9, 32, LEAST, MOST}) {
            refused("chairs(0, 0, " + t + ")", Lived::rich, UNKNOWN, x -> x.chairs(0, 0, t));
            refused("chairs(7, -1, " + t + "): UNKNOWN is ahead", Lived::rich, UNKNOWN, x -> x.chairs(7, -1, t));
        }
        for (int m : new int[] {-1, 9, LEAST, MOST}) {
            refused("chairs(7, " + m + ", NONE)", Lived::rich, OUTSIDE, x -> x.chairs(7, m, NONE));
            refused("chairs(0, " + m + ", 2)", Lived::rich, OUTSIDE, x -> x.chairs(0, m, 2));
            refused("chairs(0, " + m + ", NONE) of no realm", Lived::noRealm, OUTSIDE, x -> x.chairs(0, m, NONE));
        }
        refused("chairs(1, 0, NONE) of no realm", Lived::noRealm, UNKNOWN, x -> x.chairs(1, 0, NONE));
        refused("chairs(0, 0, 0) of no tables", Lived::noTables, UNKNOWN, x -> x.chairs(0, 0, 0));
    }

    private static void spread() {
        for (int t : NO_TABLE_OF_THREE) {
            refused("spread(" + t + ")", Lived::rich, UNKNOWN, x -> x.spread(t));
        }
        refused("spread(0) of no realm", Lived::noRealm, UNKNOWN, x -> x.spread(0));
    }

    private static void quiet() {
        for (int n : new int[] {-1, 61, LEAST, MOST}) {
            refused("quiet(" + n + ", 0)", Lived::rich, OUTSIDE, x -> x.quiet(n, 0));
            refused("quiet(" + n + ", 100)", Lived::rich, OUTSIDE, x -> x.quiet(n, 100));
        }
        for (int q : new int[] {-1, 101, LEAST, MOST}) {
            refused("quiet(0, " + q + ")", Lived::rich, OUTSIDE, x -> x.quiet(0, q));
            refused("quiet(60, " + q + ")", Lived::rich, OUTSIDE, x -> x.quiet(60, q));
        }
    }

    private static void see() {
        for (int t : NO_TABLE_OF_THREE) {
            refused("see(" + t + ", true)", Lived::rich, UNKNOWN, x -> x.see(t, true));
            refused("see(" + t + ", false) of six: UNKNOWN is ahead", Lived::fullBooks, UNKNOWN, x -> x.see(t, false));
        }
        refused("see(1, true) of six", Lived::fullBooks, FULL, x -> x.see(1, true));
        refused("see(2, false) of six", Lived::fullBooks, FULL, x -> x.see(2, false));
        refused("see(0, true) in no realm", Lived::noRealm, UNKNOWN, x -> x.see(0, true));
    }

    private static void write() {
        for (int t : NO_TABLE_OF_THREE) {
            refused("write(" + t + ", 0)", Lived::rich, UNKNOWN, x -> x.write(t, 0));
            refused("write(" + t + ", 21): UNKNOWN is ahead", Lived::rich, UNKNOWN, x -> x.write(t, 21));
            refused("write(" + t + ", 0) of fifteen: UNKNOWN is ahead", Lived::fullBooks, UNKNOWN, x -> x.write(t, 0));
            refused("write(" + t + ", -1) of fifteen: UNKNOWN is ahead", Lived::fullBooks, UNKNOWN, x -> x.write(t, -1));
        }
        for (int sit : new int[] {-1, 21, LEAST, MOST}) {
            refused("write(2, " + sit + ")", Lived::rich, OUTSIDE, x -> x.write(2, sit));
            refused("write(2, " + sit + ") of fifteen: OUTSIDE is ahead", Lived::fullBooks, OUTSIDE, x -> x.write(2, sit));
        }
        refused("write(0, 0) of fifteen", Lived::fullBooks, FULL, x -> x.write(0, 0));
        refused("write(2, 20) of fifteen", Lived::fullBooks, FULL, x -> x.write(2, 20));
        refused("write(0, 0) in no realm", Lived::noRealm, UNKNOWN, x -> x.write(0, 0));
    }

    private static void seed() {
        for (int v : new int[] {-1, -2, LEAST}) {
            refused("seed(" + v + ")", Lived::rich, OUTSIDE, x -> x.seed(v));
            refused("seed(" + v + ") in no realm", Lived::noRealm, OUTSIDE, x -> x.seed(v));
        }
    }

    private static void keep() {
        for (int i : NO_IMAGE) {
            refused("keep(" + i + ")", Lived::rich, UNKNOWN, x -> x.keep(i));
            refused("keep(" + i + ") in no realm", Lived::noRealm, UNKNOWN, x -> x.keep(i));
        }
    }

    private static void goBack() {
        for (int i : NO_IMAGE) {
            refused("goBack(" + i + ")", Lived::rich, UNKNOWN, x -> x.goBack(i));
            refused("goBack(" + i + ") of one image", Lived::oneImageAndMore, UNKNOWN, x -> x.goBack(i));
        }
        refused("goBack(0), 1 alone was kept", Lived::oneImageAndMore, NOT, x -> x.goBack(0));
        refused("goBack(0), nothing to undo", Lived::oneImage, NOT, x -> x.goBack(0));
        refused("goBack(0) in no realm", Lived::noRealm, NOT, x -> x.goBack(0));
        refused("goBack(1), none was kept", Lived::plain, NOT, x -> x.goBack(1));
    }
}
