/** Promises 15 to 21: chain, more, far, two, chairs, spread, quiet. */
final class TriedTest {
    private static final Check CHECK = new Check("TriedTest");
    private static final int NONE = FreePlace.NONE;

    private TriedTest() {
    }

    public static void main(String[] args) {
        chains();
        shortestFirst();
        more();
        far();
        two();
        twoRefused();
        chairs();
        chairsOfLikeOnes();
        chairsAtTheBounds();
        chairsRefused();
        spread();
        quiet();
        CHECK.close();
    }

    private static void row(FreePlace x, int... tables) {
        CHECK.due("MOVES from " + tables[0], x.chain(tables[0], NONE), tables.length - 1);
        for (int i = 0; i < tables.length; i++) {
            CHECK.due("chain(" + tables[0] + ", " + i + ")", x.chain(tables[0], i), tables[i]);
        }
        CHECK.due("behind the last", x.chain(tables[0], tables.length), NONE);
    }

    /** Promise 15. */
    private static void chains() {
        FreePlace x = Check.realmOf("r0 0;t3 1;t2 1;t1 1;t1 0;w0 1;w1 2;");
        row(x, 0);
        row(x, 1, 0);
        row(x, 2, 1, 0);
        CHECK.due("no chain", x.chain(3, NONE), NONE);
        CHECK.due("no first of none", x.chain(3, 0), NONE);
        CHECK.due("below NONE", x.chain(2, -2), NONE);
        CHECK.due("far below NONE", x.chain(2, Integer.MIN_VALUE), NONE);
        CHECK.due("far above", x.chain(2, Integer.MAX_VALUE), NONE);
        String before = Check.picture(x);
        CHECK.due("chain(4, 0)", x.chain(4, 0), FreePlace.UNKNOWN);
        CHECK.due("chain(-1, -1)", x.chain(-1, -1), FreePlace.UNKNOWN);
        CHECK.same("chain", x, before);
        FreePlace path = Check.realmOf("r0 0;t1 0;t1 0;t1 0;t1 0;t1 0;t1 0;t1 0;t1 0;t2 0;"
                + "w0 1;w1 2;w2 3;w3 4;w4 5;w5 6;w6 7;w7 8;");
        row(path, 0, 1, 2, 3, 4, 5, 6, 7, 8);
        path.shut(4, true);
        CHECK.due("a shut way parts it", path.chain(4, NONE), NONE);
        row(path, 5, 6, 7, 8);
    }

    /** Promise 15: the shortest, of like ones the first. */
    private static void shortestFirst() {
        FreePlace x = Check.realmOf("r0 0;t1 1;t1 1;t1 1;t1 1;t5 1;t5 1;w0 2;w0 1;w2 4;w1 5;w1 3;w3 4;");
        row(x, 0, 1, 5);
        row(x, 3, 4);
        x.shut(3, true);
        row(x, 0, 2, 4);
        row(x, 1, 3, 4);
        x.shut(2, true);
        row(x, 0, 1, 3, 4);
        FreePlace late = Check.realmOf("r0 0;t1 1;t1 1;t1 1;t1 1;t3 0;t1 1;w0 1;w0 2;w1 3;w2 5;w3 4;w5 4;");
        row(late, 0, 1, 3, 4);
        FreePlace ends = Check.realmOf("r0 0;t1 1;t3 0;t3 0;w0 2;w0 1;");
        row(ends, 0, 1);
    }

    /** Promise 16. */
    private static void more() {
        FreePlace x = Check.realmOf("r0 0;t5 1;t2 2;t4 3;t9 0;t2 1;w0 1;w1 2;w3 4;");
        CHECK.due("more(0)", x.more(0), 3);
        CHECK.due("more(1)", x.more(1), 3);
        CHECK.due("more(2)", x.more(2), 3);
        CHECK.due("more(3)", x.more(3), 8);
        x.shut(0, true);
        CHECK.due("cut off with 5 seats", x.more(0), 3);
        CHECK.due("cut off", x.more(1), 0);
        CHECK.due("cut off, one FREE", x.more(2), 0);
        FreePlace path = Check.realmOf("r0 0;t1 0;t1 0;t1 0;t1 0;t1 0;t1 0;t1 0;t1 0;t4 0;"
                + "w0 1;w1 2;w2 3;w3 4;w4 5;w5 6;w6 7;w7 8;");
        CHECK.due("as far as it hangs together", path.more(0), 3);
        CHECK.due("more(5)", x.more(5), FreePlace.UNKNOWN);
        CHECK.due("more(-1)", x.more(-1), FreePlace.UNKNOWN);
    }

    /** Promise 17. */
    private static void far() {
        FreePlace x = Check.realmOf("r0 0;t1 1;t1 1;t1 1;t3 0;w0 1;w1 3;w2 1;");
        CHECK.due("far(0)", x.far(0), 2);
        CHECK.due("of like ones the least", x.far(1), 0);
        x.shut(0, true);
        x.shut(2, true);
        CHECK.due("a table without a chain", x.far(0), NONE);
        CHECK.due("the least such table", x.far(1), 0);
        x.shut(0, false);
        CHECK.due("the least such table now", x.far(1), 2);
        CHECK.due("NONE still", x.far(0), NONE);
        FreePlace near = Check.realmOf("r0 0;t3 0;t3 0;");
        CHECK.due("no moves", near.far(0), 0);
        CHECK.due("the first", near.far(1), 0);
        FreePlace bare = Check.realmOf("r0 0;");
        CHECK.due("without tables", bare.far(0), NONE);
        CHECK.due("no table", bare.far(1), NONE);
        CHECK.due("far(2)", x.far(2), FreePlace.OUTSIDE);
        CHECK.due("far(-1)", x.far(-1), FreePlace.OUTSIDE);
        CHECK.due("far(2) without tables", bare.far(2), FreePlace.OUTSIDE);
    }

    /** Promise 18. */
    private static void two() {
        // Who comes to 0 first takes the last place at 1, so that who comes to 1 must go far.
        FreePlace x = Check.realmOf("r0 0;t1 1;t2 0;t1 1;t1 1;t3 0;w0 1;w0 4;w1 2;w2 3;w3 4;");
        CHECK.due("two(0, 1, 0)", x.two(0, 1, 0), 1);
        CHECK.due("two(0, 1, 1)", x.two(0, 1, 1), 1);
        CHECK.due("two(1, 0, 0)", x.two(1, 0, 0), 0);
        CHECK.due("two(1, 0, 1)", x.two(1, 0, 1), 1);
        String before = Check.picture(x);
        CHECK.due("the same", x.two(0, 0, 0), 0);
        CHECK.due("the same, how many", x.two(0, 0, 1), 2);
        CHECK.same("two", x, before);
        FreePlace none = Check.realmOf("r0 0;t1 1;t2 1;t2 0;w0 2;");
        CHECK.due("no chain for both", none.two(1, 1, 1), 2000);
        CHECK.due("no chain for one", none.two(1, 2, 1), 1000);
        CHECK.due("the place goes to either", none.two(0, 2, 1), 1000);
        CHECK.due("who comes to 2 first moves nobody", none.two(0, 2, 0), 1);
        CHECK.due("told the other way", none.two(2, 0, 0), 0);
        CHECK.due("one place for two", none.two(2, 2, 1), 1000);
    }

    /** Promise 18: refusals. */
    private static void twoRefused() {
        FreePlace x = Check.realmOf("r0 0;t3 0;t3 0;");
        CHECK.due("two(2, 0, 0)", x.two(2, 0, 0), FreePlace.UNKNOWN);
        CHECK.due("two(0, 2, 0)", x.two(0, 2, 0), FreePlace.UNKNOWN);
        CHECK.due("two(-1, 0, 9)", x.two(-1, 0, 9), FreePlace.UNKNOWN);
        CHECK.due("two(0, -1, 9)", x.two(0, -1, 9), FreePlace.UNKNOWN);
        CHECK.due("two(0, 1, 2)", x.two(0, 1, 2), FreePlace.OUTSIDE);
        CHECK.due("two(0, 1, -1)", x.two(0, 1, -1), FreePlace.OUTSIDE);
    }

    private static void built(FreePlace x, int set, int m, int... chairs) {
        int all = 0;
        for (int t = 0; t < chairs.length; t++) {
            all += chairs[t];
            CHECK.due("chairs(" + set + ", " + m + ", " + t + ")", x.chairs(set, m, t), chairs[t]);
        }
        CHECK.due("chairs(" + set + ", " + m + ", NONE)", x.chairs(set, m, NONE), all);
    }

    /** Promise 19: the fewest. */
    private static void chairs() {
        FreePlace x = Check.realmOf("r0 0;t1 1;t2 1;t1 1;t3 3;t5 0;w0 1;w1 2;w2 3;w3 4;");
        built(x, 31, 4, 0, 0, 0, 0, 0);
        built(x, 31, 3, 0, 1, 0, 0, 0);
        built(x, 31, 2, 0, 1, 0, 0, 0);
        built(x, 31, 1, 0, 1, 0, 0, 0);
        built(x, 1, 0, 2, 0, 0, 0, 0);
        built(x, 3, 0, 2, 1, 0, 0, 0);
        built(x, 16, 0, 0, 0, 0, 0, 0);
        built(x, 5, 0, 2, 0, 2, 0, 0);
        built(x, 0, 0, 0, 0, 0, 0, 0);
        CHECK.due("more than four", x.chairs(7, 0, NONE), NONE);
        CHECK.due("more than four, at a table", x.chairs(7, 0, 1), NONE);
        CHECK.due("WOOD is of no matter", x.told(1), 0);
        String before = Check.picture(x);
        x.chairs(31, 1, 1);
        CHECK.same("chairs", x, before);
        x.shut(0, true);
        built(x, 1, 8, 2, 0, 0, 0, 0);
        built(x, 2, 1, 0, 1, 0, 0, 0);
    }

    /** Promise 19: the first of like ones. */
    private static void chairsOfLikeOnes() {
        FreePlace x = Check.realmOf("r0 0;t1 1;t1 1;t1 1;w0 1;w1 2;");
        built(x, 7, 1, 0, 2, 0);
        built(x, 7, 2, 2, 0, 0);
        built(x, 5, 1, 0, 2, 0);
        built(x, 3, 1, 2, 0, 0);
        FreePlace pairs = Check.realmOf("r0 0;t1 0;t1 0;t1 0;t1 0;w0 1;w2 3;w0 3;");
        built(pairs, 15, 1, 1, 0, 1, 0);
        FreePlace mixed = Check.realmOf("r0 0;t1 0;t1 1;t1 0;t1 0;w0 1;w1 2;w1 3;");
        built(mixed, 13, 1, 0, 2, 0, 0);
        built(mixed, 5, 2, 1, 0, 0, 0);
        built(mixed, 12, 1, 0, 2, 0, 0);
        built(mixed, 5, 0, 1, 0, 1, 0);
        // Two chairs serve 4, 5, 6 at 0 and 3, at 1 and 2, or at 1 and 3.
        FreePlace crossed = Check.realmOf("r0 0;t1 0;t1 0;t1 0;t1 0;t1 1;t1 1;t1 1;w4 0;w4 1;w5 3;w5 1;w6 3;w6 2;");
        built(crossed, 112, 1, 1, 0, 0, 1, 0, 0, 0);
    }

    /** Promise 19: four chairs, and 20 seats. */
    private static void chairsAtTheBounds() {
        FreePlace four = Check.realmOf("r0 0;t1 0;t1 0;t1 0;t1 0;t1 0;");
        built(four, 15, 8, 1, 1, 1, 1, 0);
        built(four, 30, 8, 0, 1, 1, 1, 1);
        CHECK.due("a fifth", four.chairs(31, 8, NONE), NONE);
        FreePlace full = Check.realmOf("r0 99;t12 12;t12 11;w0 1;");
        for (int i = 0; i < 7; i++) {
            full.build(0);
            full.build(1);
        }
        for (int i = 0; i < 7; i++) {
            full.come(0);
            full.come(1);
        }
        CHECK.due("19 seats", full.table(0, 0), 19);
        CHECK.due("nobody free", full.table(0, 2) + full.table(1, 2), 1);
        built(full, 1, 1, full.table(1, 2) == 1 ? 0 : 1, full.table(1, 2) == 1 ? 1 : 0);
        int closed = full.table(0, 2) == 0 ? 0 : 1;
        CHECK.due("two chairs are one too many", full.chairs(1 << closed, 0, NONE), NONE);
        full.build(0);
        full.build(1);
        CHECK.due("20 seats", full.table(0, 0), 20);
        CHECK.due("one of them is open", full.chairs(3, 1, NONE), 0);
        full.come(0);
        CHECK.due("no chair more", full.chairs(3, 8, NONE), NONE);
        CHECK.due("no chair more for none", full.chairs(0, 8, NONE), 0);
    }

    /** Promise 19: refusals. */
    private static void chairsRefused() {
        FreePlace x = Check.realmOf("r0 0;t3 0;t3 0;");
        CHECK.due("a bit too many", x.chairs(4, 0, NONE), FreePlace.UNKNOWN);
        CHECK.due("a set below 0", x.chairs(-1, 0, NONE), FreePlace.UNKNOWN);
        CHECK.due("the least set", x.chairs(Integer.MIN_VALUE, 0, NONE), FreePlace.UNKNOWN);
        CHECK.due("t = 2", x.chairs(1, 0, 2), FreePlace.UNKNOWN);
        CHECK.due("t = -2", x.chairs(1, 0, -2), FreePlace.UNKNOWN);
        CHECK.due("UNKNOWN is ahead", x.chairs(4, 9, NONE), FreePlace.UNKNOWN);
        CHECK.due("UNKNOWN t is ahead", x.chairs(1, 9, 2), FreePlace.UNKNOWN);
        CHECK.due("m = 9", x.chairs(1, 9, NONE), FreePlace.OUTSIDE);
        CHECK.due("m = -1", x.chairs(1, -1, 0), FreePlace.OUTSIDE);
        FreePlace none = new FreePlace();
        CHECK.due("no realm, no table", none.chairs(0, 0, 0), FreePlace.UNKNOWN);
        CHECK.due("no realm, a bit", none.chairs(1, 0, NONE), FreePlace.UNKNOWN);
        CHECK.due("no realm, m", none.chairs(0, 9, NONE), FreePlace.OUTSIDE);
        CHECK.due("no realm, none", none.chairs(0, 8, NONE), 0);
    }

    /** Promise 20. */
    private static void spread() {
        FreePlace x = Check.realmOf("r0 0;t5 5;t5 0;t6 4;w0 1;w1 2;");
        CHECK.due("7 FREE at three", x.spread(0), 2);
        x.go(0);
        CHECK.due("8 FREE at three", x.spread(2), 2);
        x.go(0);
        CHECK.due("9 FREE at three", x.spread(1), 3);
        FreePlace small = Check.realmOf("r0 0;t1 1;t12 0;w0 1;");
        CHECK.due("no more FREE than seats", small.spread(1), 1);
        small.breakOne(1);
        small.shut(0, true);
        CHECK.due("alone and full", small.spread(0), 0);
        CHECK.due("alone and empty", small.spread(1), 11);
        FreePlace path = Check.realmOf("r0 0;t1 1;t1 1;t1 1;t1 1;t1 1;t1 1;t1 1;t1 1;t10 0;"
                + "w0 1;w1 2;w2 3;w3 4;w4 5;w5 6;w6 7;w7 8;");
        CHECK.due("as far as it hangs together", path.spread(0), 1);
        FreePlace broken = Check.realmOf("r0 0;t1 0;t3 0;w0 1;");
        broken.breakOne(0);
        CHECK.due("a table with no seat", broken.spread(1), 0);
        CHECK.due("spread(2)", broken.spread(2), FreePlace.UNKNOWN);
        CHECK.due("spread(-1)", broken.spread(-1), FreePlace.UNKNOWN);
    }

    /** Promise 21. */
    private static void quiet() {
        FreePlace x = new FreePlace();
        CHECK.due("quiet(0, 0)", x.quiet(0, 0), 1000000000);
        CHECK.due("quiet(60, 0)", x.quiet(60, 0), 1000000000);
        CHECK.due("quiet(0, 100)", x.quiet(0, 100), 1000000000);
        CHECK.due("quiet(1, 100)", x.quiet(1, 100), 0);
        CHECK.due("quiet(1, 50)", x.quiet(1, 50), 500000000);
        CHECK.due("quiet(2, 33)", x.quiet(2, 33), 448900000);
        long odds = 1000000000L;
        for (int n = 1; n <= 60; n++) {
            odds = odds * 93 / 100;
            CHECK.due("quiet(" + n + ", 7)", x.quiet(n, 7), odds);
        }
        CHECK.due("quiet(5, 99) is cut each time", x.quiet(5, 99), 0);
        CHECK.due("quiet(4, 99)", x.quiet(4, 99), 10);
        CHECK.due("quiet(-1, 0)", x.quiet(-1, 0), FreePlace.OUTSIDE);
        CHECK.due("quiet(61, 0)", x.quiet(61, 0), FreePlace.OUTSIDE);
        CHECK.due("quiet(0, -1)", x.quiet(0, -1), FreePlace.OUTSIDE);
        CHECK.due("quiet(0, 101)", x.quiet(0, 101), FreePlace.OUTSIDE);
    }
}
