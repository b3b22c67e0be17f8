/** The bounds of what is tried: MORE, FAR, TWO, CHAIRS, SPREAD, QUIET, INSPECTED, EMERGENCY, promises 15 to 21. */
final class TriedBoundsTest {
    private static final Check CHECK = new Check("TriedBoundsTest");
    private static final int NONE = FreePlace.NONE;
    private static final int OUTSIDE = FreePlace.OUTSIDE;
    private static final String NINE_IN_A_ROW = "r0 0;t1 0;t1 0;t1 0;t1 0;t1 0;t1 0;t1 0;t1 0;t3 0;"
            + "w0 1;w1 2;w2 3;w3 4;w4 5;w5 6;w6 7;w7 8;";

    private TriedBoundsTest() {
    }

    public static void main(String[] args) {
        nothingChangesByIt();
        chainNumberedFrom0();
        chainBelowNone();
        chainOfNone();
        moreBeyondOneEach();
        moreOfNoneFree();
        moreOfThoseThatHangTogether();
        moreAsManyAsCome();
        farOfMost();
        farOfLikeOnesTheLeast();
        farWithoutAChain();
        farWithoutTables();
        farWhatFrom0To1();
        twoFewerTogether();
        twoOfLikeOnes0();
        twoCounts1000();
        twoAtTheSameTable();
        twoTakeTheLastPlaces();
        chairsFourAtMost();
        chairs20SeatsAtMost();
        chairsWoodOfNoMatter();
        chairsMovesFrom0To8();
        chairsOfAnEmptySet();
        chairsOfASet();
        chairsOfLikeOnesTheFirst();
        chairsAtATableOrNone();
        chairsByOpenWays();
        spreadIsCut();
        spreadNoMoreThanSeats();
        spreadAlone();
        spreadOfThoseThatHangTogether();
        inspectedAndEmergency();
        quietBounds();
        quietIsCutEachTime();
        allOfNoTable();
        allOfOneTable();
        allOfNoneFree();
        triedBehind9001();
        CHECK.close();
    }

    private static void built(FreePlace x, int set, int m, int... chairs) {
        int all = 0;
        for (int t = 0; t < chairs.length; t++) {
            all += chairs[t];
            CHECK.due("chairs(" + set + ", " + m + ", " + t + ")", x.chairs(set, m, t), chairs[t]);
        }
        CHECK.due("chairs(" + set + ", " + m + ", NONE)", x.chairs(set, m, NONE), all);
    }

    private static void noneBuilt(FreePlace x, int set, int m) {
        int tables = x.told(2);
        for (int t = NONE; t < tables; t++) {
            CHECK.due("chairs(" + set + ", " + m + ", " + t + ")", x.chairs(set, m, t), NONE);
        }
    }

    /** The first table has so many SEATS, from 12 on, and so many FREE; nothing is joined to it. */
    private static FreePlace seated(int seats, int free) {
        FreePlace x = Check.realmOf("r0 99;t12 12;t1 0;");
        for (int i = 12; i < seats; i++) {
            x.build(0);
        }
        for (int i = x.table(0, 2); i > free; i--) {
            x.come(0);
        }
        for (int i = x.table(0, 2); i < free; i++) {
            x.go(0);
        }
        CHECK.due("SEATS", x.table(0, 0), seats);
        CHECK.due("FREE", x.table(0, 2), free);
        return x;
    }

    /** "TRIED from now; nothing changes by it." */
    private static void nothingChangesByIt() {
        FreePlace x = Lived.rich();
        String before = Check.picture(x);
        x.chain(0, NONE);
        x.chain(0, 1);
        x.more(0);
        x.far(0);
        x.far(1);
        x.two(0, 1, 0);
        x.two(1, 1, 1);
        x.chairs(7, 0, NONE);
        x.chairs(7, 1, 2);
        x.spread(0);
        x.quiet(60, 50);
        x.told(11);
        x.told(12);
        x.came();
        x.look();
        x.judge();
        CHECK.same("what is tried", x, before);
        CHECK.due("the seed", x.seed(0), 79);
    }

    /** Promise 15: "i = NONE how many MOVES, else the i-th TABLE". */
    private static void chainNumberedFrom0() {
        FreePlace x = Check.realmOf(NINE_IN_A_ROW);
        CHECK.due("MOVES", x.chain(0, NONE), 8);
        for (int i = 0; i <= 8; i++) {
            CHECK.due("the " + i + "th", x.chain(0, i), i);
        }
        CHECK.due("behind the last", x.chain(0, 9), NONE);
        CHECK.due("far behind it", x.chain(0, Integer.MAX_VALUE), NONE);
        CHECK.due("of one alone", x.chain(8, 0), 8);
        CHECK.due("MOVES of one alone", x.chain(8, NONE), 0);
        CHECK.due("behind one alone", x.chain(8, 1), NONE);
    }

    /** Promise 15: "NONE (i below NONE, too)". */
    private static void chainBelowNone() {
        FreePlace x = Check.realmOf(NINE_IN_A_ROW);
        for (int i : new int[] {-2, -3, -9, Integer.MIN_VALUE}) {
            CHECK.due("chain(0, " + i + ")", x.chain(0, i), NONE);
            CHECK.due("chain(8, " + i + ")", x.chain(8, i), NONE);
        }
        CHECK.due("UNKNOWN is ahead", x.chain(9, -2), FreePlace.UNKNOWN);
    }

    private static void chainOfNone() {
        FreePlace x = Check.realmOf("r0 0;t1 1;t2 1;w0 1;");
        for (int i = -2; i <= 2; i++) {
            CHECK.due("chain(0, " + i + ")", x.chain(0, i), NONE);
            CHECK.due("chain(1, " + i + ")", x.chain(1, i), NONE);
        }
    }

    /** "all FREE ones there beyond 1 each". */
    private static void moreBeyondOneEach() {
        FreePlace x = Check.realmOf("r0 0;t12 11;t12 10;t12 9;t12 0;");
        int[] due = {0, 1, 2, 11};
        for (int t = 0; t < due.length; t++) {
            CHECK.due("more(" + t + ")", x.more(t), due[t]);
        }
        CHECK.due("more(4)", x.more(4), FreePlace.UNKNOWN);
        CHECK.due("more(-1)", x.more(-1), FreePlace.UNKNOWN);
        FreePlace together = Check.realmOf("r0 0;t5 1;t4 3;t5 3;w0 1;w1 2;");
        for (int t = 0; t < 3; t++) {
            CHECK.due("3 and 0 and 1", together.more(t), 4);
        }
    }

    /** "(a TABLE with none FREE: 0)": nothing is taken off. */
    private static void moreOfNoneFree() {
        FreePlace x = Check.realmOf("r0 0;t2 2;t2 2;t3 1;w0 1;w1 2;");
        CHECK.due("alone with those that are full", x.more(2), 1);
        CHECK.due("from a full one", x.more(0), 1);
        CHECK.due("full and alone", Check.realmOf("r0 0;t2 2;").more(0), 0);
        FreePlace broken = Check.realmOf("r0 0;t1 0;t3 1;w0 1;");
        broken.breakOne(0);
        CHECK.due("without a SEAT", broken.more(0), 1);
    }

    /** "at TABLES that hang together with one (by WAYS that are not SHUT)". */
    private static void moreOfThoseThatHangTogether() {
        FreePlace x = Check.realmOf(NINE_IN_A_ROW);
        for (int t = 0; t < 9; t++) {
            CHECK.due("more(" + t + ")", x.more(t), 2);
        }
        x.shut(7, true);
        CHECK.due("cut off", x.more(7), 0);
        CHECK.due("cut off, far away", x.more(0), 0);
        CHECK.due("the other part", x.more(8), 2);
        x.shut(7, false);
        x.shut(0, true);
        CHECK.due("the first is cut off", x.more(0), 0);
        CHECK.due("the second is not", x.more(1), 2);
    }

    /** "how many GUESTS can still come, wherever they come, without a CRIME": so many come, the next does one. */
    private static void moreAsManyAsCome() {
        FreePlace x = Check.realmOf("r0 0;t2 2;t4 1;t5 1;t1 0;w0 1;w2 0;w2 3;");
        int more = x.more(3);
        CHECK.due("more(3)", more, 5);
        for (int i = 0; i < more; i++) {
            CHECK.due("one comes", x.come(i % 4) >= 0 ? 1 : 0, 1);
            CHECK.due("one less", x.more(3), more - 1 - i);
        }
        CHECK.due("the next", x.come(3), -2);
        CHECK.due("no more", x.more(3), 0);
    }

    /** "how many MOVES the CHAIN has that has most; from which TABLE". */
    private static void farOfMost() {
        FreePlace x = Check.realmOf(NINE_IN_A_ROW);
        CHECK.due("far(0)", x.far(0), 8);
        CHECK.due("far(1)", x.far(1), 0);
        FreePlace last = Check.realmOf("r0 0;t3 0;t1 1;t1 1;w0 1;w1 2;");
        CHECK.due("the last is farthest", last.far(1), 2);
        CHECK.due("MOVES", last.far(0), 2);
        FreePlace near = Check.realmOf("r0 0;t3 0;t2 0;");
        CHECK.due("no MOVES", near.far(0), 0);
        CHECK.due("of the first", near.far(1), 0);
    }

    /** "(of like ones the least)". */
    private static void farOfLikeOnesTheLeast() {
        FreePlace x = Check.realmOf("r0 0;t3 0;t1 1;t1 1;t1 1;t1 1;w0 1;w1 2;w0 4;w3 4;");
        CHECK.due("MOVES", x.far(0), 2);
        CHECK.due("2 ahead of 3", x.far(1), 2);
    }

    /** "if a TABLE has no CHAIN: NONE, and the least such TABLE". */
    private static void farWithoutAChain() {
        FreePlace x = Check.realmOf("r0 0;t1 1;t3 0;t1 1;t1 1;w0 1;");
        CHECK.due("far(0)", x.far(0), NONE);
        CHECK.due("the least such", x.far(1), 2);
        x.shut(0, true);
        CHECK.due("a lesser one", x.far(1), 0);
        FreePlace all = Check.realmOf("r0 0;t2 1;t2 2;w0 1;");
        CHECK.due("all without", all.far(0), NONE);
        CHECK.due("the least of all", all.far(1), 0);
    }

    /** Promise 17: "(NONE without TABLES, too)". */
    private static void farWithoutTables() {
        for (FreePlace x : new FreePlace[] {new FreePlace(), Check.realmOf("r0 0;"), Check.realmOf("")}) {
            CHECK.due("far(0)", x.far(0), NONE);
            CHECK.due("far(1)", x.far(1), NONE);
            CHECK.due("far(2)", x.far(2), OUTSIDE);
        }
    }

    /** Promise 17: "OUTSIDE". */
    private static void farWhatFrom0To1() {
        FreePlace x = Check.realmOf(NINE_IN_A_ROW);
        CHECK.due("far(-1)", x.far(-1), OUTSIDE);
        CHECK.due("far(2)", x.far(2), OUTSIDE);
        CHECK.due("far(1)", x.far(1), 0);
        CHECK.due("far(0)", x.far(0), 8);
    }

    /** "which first, so that MOVES together are fewer": by one. */
    private static void twoFewerTogether() {
        // Who comes to 0 first takes the place at 1, so that who comes to 3 goes one farther.
        FreePlace x = Check.realmOf("r0 0;t1 1;t2 0;t2 0;t1 1;t1 1;t2 0;w0 1;w0 2;w3 1;w3 4;w4 5;");
        CHECK.due("two(0, 3, 0)", x.two(0, 3, 0), 1);
        CHECK.due("two(0, 3, 1)", x.two(0, 3, 1), 2);
        CHECK.due("two(3, 0, 0)", x.two(3, 0, 0), 0);
        CHECK.due("two(3, 0, 1)", x.two(3, 0, 1), 2);
        CHECK.due("two(0, 3, 2)", x.two(0, 3, 2), OUTSIDE);
        CHECK.due("two(0, 3, -1)", x.two(0, 3, -1), OUTSIDE);
        CHECK.due("two(0, 6, 2)", x.two(0, 6, 2), FreePlace.UNKNOWN);
    }

    /** "of like ones 0". */
    private static void twoOfLikeOnes0() {
        FreePlace x = Check.realmOf("r0 0;t3 0;t3 0;t1 1;t1 1;w0 2;w1 3;");
        for (int t = 0; t < 4; t++) {
            for (int u = 0; u < 4; u++) {
                CHECK.due("which first", x.two(t, u, 0), 0);
                CHECK.due("how many", x.two(t, u, 1), t / 2 + u / 2);
            }
        }
    }

    /** "(a GUEST for whom there is no CHAIN counts as 1000)": a CRIME as well as one who STANDS. */
    private static void twoCounts1000() {
        FreePlace x = Check.realmOf("r0 0;t1 1;t2 1;t3 0;t1 1;w2 3;");
        CHECK.due("one STANDS", x.two(0, 3, 1), 1001);
        CHECK.due("a CRIME", x.two(1, 2, 1), 1000);
        CHECK.due("both", x.two(0, 1, 1), 2000);
        CHECK.due("none first of like ones", x.two(0, 3, 0), 0);
        FreePlace row = Check.realmOf(NINE_IN_A_ROW);
        row.come(8);
        CHECK.due("eight MOVES, and no place", row.two(0, 0, 1), 1008);
        CHECK.due("the nearer one first", row.two(0, 8, 0), 1);
        CHECK.due("no MOVES, and no place", row.two(0, 8, 1), 1000);
    }

    /** "two TABLES (the same or not)". */
    private static void twoAtTheSameTable() {
        FreePlace x = Check.realmOf(NINE_IN_A_ROW);
        CHECK.due("eight twice", x.two(0, 0, 1), 16);
        CHECK.due("which first", x.two(0, 0, 0), 0);
        CHECK.due("nobody moves", x.two(8, 8, 1), 0);
        FreePlace one = Check.realmOf("r0 0;t2 0;t3 0;w0 1;");
        CHECK.due("the second moves", one.two(0, 0, 1), 1);
        CHECK.due("none at all", Check.realmOf("r0 0;t1 0;").two(0, 0, 1), 2000);
    }

    /** The first takes what the second would have had. */
    private static void twoTakeTheLastPlaces() {
        FreePlace x = Check.realmOf("r0 0;t1 1;t2 0;w0 1;");
        CHECK.due("one place", x.two(0, 1, 1), 1000);
        CHECK.due("the one at it first", x.two(0, 1, 0), 1);
        x.build(1);
        CHECK.due("no WOOD, no other", x.two(0, 1, 1), 1000);
        FreePlace both = Check.realmOf("r0 0;t1 1;t3 0;w0 1;");
        CHECK.due("two places", both.two(0, 1, 1), 1);
        CHECK.due("the told one first", both.two(0, 1, 0), 0);
    }

    /** "the fewest chairs to be BUILT (4 at most ...)". */
    private static void chairsFourAtMost() {
        FreePlace ones = Check.realmOf("r0 0;t1 0;t1 0;t1 0;t1 0;t1 0;");
        built(ones, 7, 0, 1, 1, 1, 0, 0);
        built(ones, 15, 0, 1, 1, 1, 1, 0);
        built(ones, 30, 0, 0, 1, 1, 1, 1);
        noneBuilt(ones, 31, 0);
        FreePlace beside = Check.realmOf("r0 0;t1 0;t1 0;t1 0;t1 0;t2 0;");
        built(beside, 31, 0, 1, 1, 1, 1, 0);
        FreePlace twos = Check.realmOf("r0 0;t1 1;t1 1;t1 1;t1 0;");
        built(twos, 3, 0, 2, 2, 0, 0);
        built(twos, 9, 0, 2, 0, 0, 1);
        noneBuilt(twos, 11, 0);
        noneBuilt(twos, 7, 0);
    }

    /** "20 SEATS at most at a TABLE". */
    private static void chairs20SeatsAtMost() {
        built(seated(18, 0), 1, 0, 2, 0);
        noneBuilt(seated(19, 0), 1, 0);
        built(seated(19, 1), 1, 0, 1, 0);
        noneBuilt(seated(20, 0), 1, 0);
        noneBuilt(seated(20, 1), 1, 0);
        built(seated(20, 2), 1, 0, 0, 0);
        built(seated(20, 0), 2, 0, 0, 1);
        noneBuilt(seated(20, 1), 3, 8);
    }

    /** "WOOD of no matter". */
    private static void chairsWoodOfNoMatter() {
        for (int wood : new int[] {0, 1, 99}) {
            FreePlace x = Check.realmOf("r0 " + wood + ";t1 1;t1 1;t1 1;w0 1;");
            built(x, 7, 1, 2, 0, 2);
            CHECK.due("WOOD", x.told(1), wood);
        }
    }

    /** "has m (0 .. 8) MOVES at most". */
    private static void chairsMovesFrom0To8() {
        FreePlace x = Check.realmOf(NINE_IN_A_ROW);
        built(x, 511, 8, 0, 0, 0, 0, 0, 0, 0, 0, 0);
        built(x, 1, 8, 0, 0, 0, 0, 0, 0, 0, 0, 0);
        built(x, 511, 7, 1, 0, 0, 0, 0, 0, 0, 0, 0);
        built(x, 510, 7, 0, 0, 0, 0, 0, 0, 0, 0, 0);
        built(x, 511, 3, 0, 1, 0, 0, 0, 0, 0, 0, 0);
        built(x, 511, 2, 1, 0, 0, 1, 0, 0, 0, 0, 0);
        built(x, 15, 0, 1, 1, 1, 1, 0, 0, 0, 0, 0);
        built(x, 256, 0, 0, 0, 0, 0, 0, 0, 0, 0, 0);
        noneBuilt(x, 31, 0);
        CHECK.due("m = 9", x.chairs(511, 9, NONE), OUTSIDE);
        CHECK.due("m = -1", x.chairs(511, -1, NONE), OUTSIDE);
        CHECK.due("a tenth bit", x.chairs(512, 0, NONE), FreePlace.UNKNOWN);
    }

    private static void chairsOfAnEmptySet() {
        FreePlace x = Check.realmOf("r0 0;t1 1;t1 1;t1 1;");
        built(x, 0, 0, 0, 0, 0);
        built(x, 0, 8, 0, 0, 0);
        CHECK.due("of no TABLES", Check.realmOf("r0 0;").chairs(0, 0, NONE), 0);
        CHECK.due("of no REALM", new FreePlace().chairs(0, 8, NONE), 0);
        CHECK.due("a TABLE of no REALM", new FreePlace().chairs(0, 8, 0), FreePlace.UNKNOWN);
    }

    /** "from each TABLE of a SET": of no other; built at any. */
    private static void chairsOfASet() {
        FreePlace x = Check.realmOf("r0 0;t1 1;t1 0;t1 1;t1 1;w0 1;w1 2;w2 3;");
        built(x, 1, 0, 2, 0, 0, 0);
        built(x, 1, 1, 0, 1, 0, 0);
        built(x, 8, 1, 0, 0, 2, 0);
        built(x, 8, 2, 0, 1, 0, 0);
        built(x, 9, 1, 0, 1, 2, 0);
        built(x, 9, 2, 0, 1, 0, 0);
    }

    /** "of like ones the first (TABLE by TABLE, the greater number BUILT at the lesser TABLE)". */
    private static void chairsOfLikeOnesTheFirst() {
        FreePlace twoAtTheLeast = Check.realmOf("r0 0;t1 1;t1 0;t1 0;t1 1;t1 1;w0 3;w0 4;w1 3;w2 4;");
        built(twoAtTheLeast, 24, 1, 2, 0, 0, 0, 0);
        FreePlace oneEach = Check.realmOf("r0 0;t1 0;t1 0;t1 1;t1 1;t1 1;w2 3;w2 4;w0 3;w1 4;");
        built(oneEach, 24, 1, 1, 1, 0, 0, 0);
        FreePlace second = Check.realmOf("r0 0;t1 0;t1 0;t1 0;t1 1;w1 3;w2 3;");
        built(second, 9, 1, 1, 1, 0, 0);
        // Two chairs serve 4, 5, 6 at 0 and 3, at 1 and 2, or at 1 and 3.
        FreePlace crossed = Check.realmOf("r0 0;t1 0;t1 0;t1 0;t1 0;t1 1;t1 1;t1 1;w4 0;w4 1;w5 3;w5 1;w6 3;w6 2;");
        built(crossed, 112, 1, 1, 0, 0, 1, 0, 0, 0);
        // One serves 2 at 1 or at 3; none is needed where 2 or more are FREE.
        for (int seats = 2; seats <= 3; seats++) {
            FreePlace open = Check.realmOf("r0 0;t" + seats + " 0;t1 0;t1 1;t1 0;w2 3;w2 1;");
            built(open, 4, 1, 0, 1, 0, 0);
            built(open, 5, 1, 0, 1, 0, 0);
        }
        // Two chairs serve 6 and 7 at 4, or at 3 and 5.
        FreePlace behind = Check.realmOf("r0 0;t2 0;t2 0;t2 0;t1 0;t1 1;t1 0;t1 1;t1 1;w4 6;w4 7;w3 6;w5 7;");
        built(behind, 192, 1, 0, 0, 0, 1, 0, 1, 0, 0);
        FreePlace alike = Check.realmOf("r0 0;t1 0;t1 0;w0 1;");
        built(alike, 3, 1, 1, 0);
        built(alike, 2, 1, 1, 0);
        built(alike, 2, 0, 0, 1);
    }

    /** Promise 19: "t = NONE how many, else how many at a TABLE; NONE". */
    private static void chairsAtATableOrNone() {
        FreePlace x = Check.realmOf("r0 0;t1 1;t1 1;t1 1;");
        built(x, 5, 0, 2, 0, 2);
        noneBuilt(x, 7, 0);
        CHECK.due("t = 3", x.chairs(5, 0, 3), FreePlace.UNKNOWN);
        CHECK.due("t = -2", x.chairs(5, 0, -2), FreePlace.UNKNOWN);
        CHECK.due("UNKNOWN is ahead", x.chairs(5, 9, 3), FreePlace.UNKNOWN);
        CHECK.due("UNKNOWN is ahead", x.chairs(8, 9, NONE), FreePlace.UNKNOWN);
        CHECK.due("OUTSIDE of what none can", x.chairs(7, 9, 0), OUTSIDE);
    }

    private static void chairsByOpenWays() {
        FreePlace x = Check.realmOf("r0 0;t1 1;t3 0;t1 0;w0 1;w0 2;");
        built(x, 1, 1, 0, 0, 0);
        x.shut(0, true);
        built(x, 1, 1, 0, 0, 1);
        x.shut(1, true);
        built(x, 1, 8, 2, 0, 0);
    }

    /** "so that the least that is FREE at any of them is as much as can be". */
    private static void spreadIsCut() {
        FreePlace x = Check.realmOf("r0 0;t6 6;t6 0;t6 5;w0 1;w1 2;");
        int[] due = {2, 2, 3, 3, 3, 4};
        for (int i = 0; i < due.length; i++) {
            CHECK.due((7 + i) + " FREE at three", x.spread(i % 3), due[i]);
            x.go(0);
        }
        FreePlace few = Check.realmOf("r0 0;t2 2;t2 2;t2 0;w0 1;w1 2;");
        CHECK.due("2 FREE at three", few.spread(0), 0);
        few.go(0);
        CHECK.due("3 FREE at three", few.spread(0), 1);
        CHECK.due("none FREE", Check.realmOf("r0 0;t2 2;t2 2;w0 1;").spread(0), 0);
    }

    private static void spreadNoMoreThanSeats() {
        CHECK.due("a TABLE of one SEAT", Check.realmOf("r0 0;t1 1;t12 0;w0 1;").spread(0), 1);
        CHECK.due("a TABLE of two", Check.realmOf("r0 0;t12 0;t2 2;t12 0;w0 1;w0 2;").spread(1), 2);
        FreePlace broken = Check.realmOf("r0 0;t1 0;t12 0;w0 1;");
        broken.breakOne(0);
        CHECK.due("a TABLE without a SEAT", broken.spread(1), 0);
        FreePlace big = seated(20, 12);
        for (int i = 0; i < 8; i++) {
            big.go(0);
        }
        CHECK.due("twenty FREE", big.spread(0), 20);
    }

    private static void spreadAlone() {
        FreePlace x = Check.realmOf("r0 0;t12 0;t12 5;t12 12;");
        CHECK.due("all FREE", x.spread(0), 12);
        CHECK.due("some FREE", x.spread(1), 7);
        CHECK.due("none FREE", x.spread(2), 0);
        CHECK.due("spread(3)", x.spread(3), FreePlace.UNKNOWN);
        CHECK.due("spread(-1)", x.spread(-1), FreePlace.UNKNOWN);
    }

    /** "at TABLES that hang together with one (it, too; by WAYS that are not SHUT)". */
    private static void spreadOfThoseThatHangTogether() {
        FreePlace x = Check.realmOf("r0 0;t2 2;t2 2;t2 2;t2 2;t2 2;t2 2;t2 2;t2 2;t12 1;"
                + "w0 1;w1 2;w2 3;w3 4;w4 5;w5 6;w6 7;w7 8;");
        CHECK.due("11 FREE at nine", x.spread(0), 1);
        x.shut(7, true);
        CHECK.due("cut off", x.spread(0), 0);
        CHECK.due("cut off, next to it", x.spread(7), 0);
        CHECK.due("the other part", x.spread(8), 11);
    }

    /** "INSPECTED: TABLES (a SET) that do not keep the RULE"; "EMERGENCY: TABLES (a SET) without a CHAIN". */
    private static void inspectedAndEmergency() {
        FreePlace x = Check.realmOf("r7 0;t2 2;t2 1;t2 0;t1 1;t1 0;w0 2;");
        CHECK.due("INSPECTED", x.told(11), 9);
        CHECK.due("EMERGENCY", x.told(12), 26);
        CHECK.due("no FINES by it", x.told(9), 0);
        x.shut(0, true);
        CHECK.due("EMERGENCY then", x.told(12), 27);
        CHECK.due("without TABLES", new FreePlace().told(11) + new FreePlace().told(12), 0);
    }

    /** "in n hours (0 .. 60), each by q of a hundred (0 .. 100)". */
    private static void quietBounds() {
        FreePlace x = new FreePlace();
        CHECK.due("quiet(0, 0)", x.quiet(0, 0), 1000000000);
        CHECK.due("quiet(0, 100)", x.quiet(0, 100), 1000000000);
        CHECK.due("quiet(60, 0)", x.quiet(60, 0), 1000000000);
        CHECK.due("quiet(60, 100)", x.quiet(60, 100), 0);
        CHECK.due("quiet(1, 100)", x.quiet(1, 100), 0);
        CHECK.due("quiet(1, 1)", x.quiet(1, 1), 990000000);
        CHECK.due("quiet(1, 99)", x.quiet(1, 99), 10000000);
        CHECK.due("quiet(59, 1)", x.quiet(59, 1), 552683455);
        CHECK.due("quiet(60, 1)", x.quiet(60, 1), 547156620);
        CHECK.due("quiet(-1, 0)", x.quiet(-1, 0), OUTSIDE);
        CHECK.due("quiet(61, 0)", x.quiet(61, 0), OUTSIDE);
        CHECK.due("quiet(0, -1)", x.quiet(0, -1), OUTSIDE);
        CHECK.due("quiet(0, 101)", x.quiet(0, 101), OUTSIDE);
    }

    /** "a BILLION times (100 less q) / 100 each (cut)". */
    private static void quietIsCutEachTime() {
        FreePlace x = new FreePlace();
        CHECK.due("nothing to cut", x.quiet(5, 1), 950990049);
        CHECK.due("cut", x.quiet(6, 1), 941480148);
        CHECK.due("cut each time", x.quiet(60, 3), 160806655);
        CHECK.due("cut each time", x.quiet(60, 10), 1797006);
        CHECK.due("the last but one", x.quiet(9, 90), 1);
        CHECK.due("the last", x.quiet(10, 90), 0);
        CHECK.due("one of a BILLION", x.quiet(29, 50), 1);
        CHECK.due("cut to none", x.quiet(30, 50), 0);
    }

    /** Each call with no TABLE: in no REALM, and in one that tells none. */
    private static void allOfNoTable() {
        for (FreePlace x : new FreePlace[] {new FreePlace(), Check.realmOf("r7 7;")}) {
            CHECK.due("chain(0, NONE)", x.chain(0, NONE), FreePlace.UNKNOWN);
            CHECK.due("more(0)", x.more(0), FreePlace.UNKNOWN);
            CHECK.due("far(0)", x.far(0), NONE);
            CHECK.due("far(1)", x.far(1), NONE);
            CHECK.due("two(0, 0, 0)", x.two(0, 0, 0), FreePlace.UNKNOWN);
            CHECK.due("chairs(0, 0, NONE)", x.chairs(0, 0, NONE), 0);
            CHECK.due("chairs(1, 0, NONE)", x.chairs(1, 0, NONE), FreePlace.UNKNOWN);
            CHECK.due("chairs(0, 0, 0)", x.chairs(0, 0, 0), FreePlace.UNKNOWN);
            CHECK.due("spread(0)", x.spread(0), FreePlace.UNKNOWN);
            CHECK.due("quiet(1, 1)", x.quiet(1, 1), 990000000);
            CHECK.due("INSPECTED", x.told(11), 0);
            CHECK.due("EMERGENCY", x.told(12), 0);
            CHECK.due("all who SIT", x.told(5), 0);
        }
    }

    private static void oneTable(int free, int moves, int more, int emergency, int inspected, int two, int chairs) {
        FreePlace x = Check.realmOf("r7 7;t3 " + (3 - free) + ";");
        String of = " of " + free + " FREE";
        CHECK.due("chain(0, NONE)" + of, x.chain(0, NONE), moves);
        CHECK.due("chain(0, 0)" + of, x.chain(0, 0), moves);
        CHECK.due("chain(0, 1)" + of, x.chain(0, 1), NONE);
        CHECK.due("more(0)" + of, x.more(0), more);
        CHECK.due("far(0)" + of, x.far(0), moves);
        CHECK.due("far(1)" + of, x.far(1), 0);
        CHECK.due("two(0, 0, 0)" + of, x.two(0, 0, 0), 0);
        CHECK.due("two(0, 0, 1)" + of, x.two(0, 0, 1), two);
        CHECK.due("chairs(1, 0, NONE)" + of, x.chairs(1, 0, NONE), chairs);
        CHECK.due("chairs(1, 8, 0)" + of, x.chairs(1, 8, 0), chairs);
        CHECK.due("chairs(0, 0, 0)" + of, x.chairs(0, 0, 0), 0);
        CHECK.due("spread(0)" + of, x.spread(0), free);
        CHECK.due("EMERGENCY" + of, x.told(12), emergency);
        CHECK.due("INSPECTED" + of, x.told(11), inspected);
        CHECK.due("joined" + of, x.table(0, 3), 0);
    }

    private static void allOfOneTable() {
        oneTable(0, NONE, 0, 1, 1, 2000, 2);
        oneTable(1, NONE, 0, 1, 0, 2000, 1);
        oneTable(2, 0, 1, 0, 0, 1000, 0);
        oneTable(3, 0, 2, 0, 0, 0, 0);
    }

    private static void allOfNoneFree() {
        FreePlace x = Check.realmOf("r7 7;t2 2;t1 1;t12 12;w0 1;w1 2;");
        for (int t = 0; t < 3; t++) {
            CHECK.due("MOVES", x.chain(t, NONE), NONE);
            CHECK.due("more", x.more(t), 0);
            CHECK.due("spread", x.spread(t), 0);
            CHECK.due("two", x.two(t, 2 - t, 1), 2000);
            CHECK.due("which first", x.two(t, 2 - t, 0), 0);
            CHECK.due("none is FREE", x.breakOne(t), FreePlace.NOT);
        }
        CHECK.due("far(0)", x.far(0), NONE);
        CHECK.due("far(1)", x.far(1), 0);
        CHECK.due("EMERGENCY", x.told(12), 7);
        CHECK.due("INSPECTED", x.told(11), 7);
        built(x, 7, 1, 0, 2, 0);
        built(x, 7, 8, 2, 0, 0);
        noneBuilt(x, 7, 0);
        for (int t = 0; t < 3; t++) {
            CHECK.due("STANDS", x.come(t), -3);
        }
    }

    /** What is tried asks nothing of GUESTS: only come() and drift() are FULL. */
    private static void triedBehind9001() {
        FreePlace x = Lived.guests9001();
        for (int i = x.table(1, 1); i > 0; i--) {
            x.go(1);
        }
        CHECK.due("2 FREE", x.table(1, 2), 2);
        CHECK.due("two at the one place", x.two(1, 1, 1), 1000);
        CHECK.due("a CHAIN", x.chain(0, NONE), 1);
        CHECK.due("more", x.more(1) > 0 ? 1 : 0, 1);
        CHECK.due("come", x.come(1), FreePlace.FULL);
    }
}
