/** The bounds of what is done: section 2 of the document, BY DRAWS, UNDONE, promises 8 to 14; a test for each sentence. */
final class DoneBoundsTest {
    private static final Check CHECK = new Check("DoneBoundsTest");
    private static final int NONE = FreePlace.NONE;
    private static final int NOT = FreePlace.NOT;
    private static final int FULL = FreePlace.FULL;
    private static final int CRIME = -2;
    private static final int STANDS = -3;
    private static final String NINE_IN_A_ROW = "r1 0;t1 0;t1 0;t1 0;t1 0;t1 0;t1 0;t1 0;t1 0;t3 0;"
            + "w0 1;w1 2;w2 3;w3 4;w4 5;w5 6;w6 7;w7 8;";

    private DoneBoundsTest() {
    }

    public static void main(String[] args) {
        freeIsSeatsLessSit();
        ruleIsKeptByOne();
        chainEndsWithTwoFree();
        chainPassesThoseWithLess();
        chainByWaysNotShut();
        chainIsShortest();
        chainIsTheFirstOfLikeOnes();
        chainOfThatTableAlone();
        chainOfNineTables();
        lastOneHasOneMore();
        movesAreTablesLessOne();
        crimeAtOneFree();
        standsAtNoneFree();
        noCrimeWithAChain();
        finesOfNothingAndOf99();
        guestsComeUpTo9000();
        guestsUndoneComeAgain();
        driftMayPass9000();
        newRealmLetsThemCome();
        oneGoesDownToNone();
        seatsUpTo20();
        woodDownToNone();
        noWoodAheadOf20Seats();
        brokenDownToNoneFree();
        brokenDownToNoSeat();
        wayShutTwice();
        wayOpenedTwice();
        driftFrom1To60();
        driftNeedsARealm();
        driftWithoutTables();
        driftAtOneTable();
        driftOfNineTables();
        driftOfThree();
        nobodyThereToGo();
        driftAnswersWhoSit();
        undoneAreTwenty();
        oldestAreLost();
        undoneRowGoesRound();
        undoneKinds();
        otherCallsAreNotUndone();
        undoLeavesSeedAndBooks();
        undoneIsGoneByImages();
        CHECK.close();
    }

    private static void row(FreePlace x, int... tables) {
        CHECK.due("MOVES from " + tables[0], x.chain(tables[0], NONE), tables.length - 1);
        for (int i = 0; i < tables.length; i++) {
            CHECK.due("chain(" + tables[0] + ", " + i + ")", x.chain(tables[0], i), tables[i]);
        }
        CHECK.due("behind the last", x.chain(tables[0], tables.length), NONE);
    }

    private static void counted(FreePlace x, int moves, int crimes, int fines, int guests, int standing) {
        CHECK.due("MOVES", x.told(7), moves);
        CHECK.due("CRIMES", x.told(8), crimes);
        CHECK.due("FINES", x.told(9), fines);
        CHECK.due("GUESTS", x.told(10), guests);
        CHECK.due("STANDING", x.told(6), standing);
    }

    /** The least seed whose next draws are t of tables, then one of three. */
    private static int seedFor(int tables, int t, int ofThree) {
        for (int seed = 0; seed < 1000000; seed++) {
            long first = Check.drawn(seed);
            long second = Check.drawn(first);
            if (first / 65536 % tables == t && second / 65536 % 3 == ofThree) {
                return seed;
            }
        }
        throw new IllegalStateException("no such seed");
    }

    /** "FREE at a TABLE are SEATS less who SIT there." */
    private static void freeIsSeatsLessSit() {
        FreePlace x = Check.realmOf("r0 1;t12 0;t12 12;t12 11;t1 1;t1 0;");
        int[] due = {12, 0, 1, 0, 1};
        for (int t = 0; t < due.length; t++) {
            CHECK.due("FREE at " + t, x.table(t, 2), due[t]);
        }
        x.build(1);
        CHECK.due("FREE of a SEAT more", x.table(1, 2), 1);
        x.go(3);
        CHECK.due("FREE of one less who SITS", x.table(3, 2), 1);
    }

    /** "It keeps the RULE, if 1 or more are FREE." */
    private static void ruleIsKeptByOne() {
        FreePlace x = Check.realmOf("r0 0;t3 3;t3 2;t3 1;t3 0;t1 1;");
        CHECK.due("those with none FREE", x.told(11), 17);
        x.come(1);
        CHECK.due("the last to sit breaks it", x.told(11), 19);
        x.go(1);
        x.breakOne(1);
        CHECK.due("so does who breaks the last", x.told(11), 19);
        x.go(0);
        CHECK.due("kept again", x.told(11), 18);
    }

    /** "the last one with 2 FREE or more". */
    private static void chainEndsWithTwoFree() {
        FreePlace x = Check.realmOf("r0 9;t1 1;t3 2;t1 1;t4 0;w0 1;w2 3;");
        CHECK.due("1 FREE is no end", x.chain(0, NONE), NONE);
        row(x, 2, 3);
        x.build(1);
        row(x, 0, 1);
        x.breakOne(3);
        x.breakOne(3);
        CHECK.due("2 FREE are left", x.table(3, 2), 2);
        row(x, 2, 3);
        x.breakOne(3);
        CHECK.due("1 FREE is left", x.chain(2, NONE), NONE);
        CHECK.due("nor is it its own", x.chain(3, NONE), NONE);
    }

    /** "all others ahead of it with less": with none or 1 FREE. */
    private static void chainPassesThoseWithLess() {
        FreePlace x = Check.realmOf("r0 1;t2 2;t2 1;t2 2;t5 0;t5 0;w0 1;w1 2;w2 3;w3 4;");
        row(x, 0, 1, 2, 3);
        row(x, 1, 2, 3);
        x.build(1);
        row(x, 0, 1);
        row(x, 1);
        FreePlace through = Check.realmOf("r0 0;t1 1;t3 1;t9 0;w0 1;w1 2;");
        row(through, 0, 1);
        through.come(0);
        row(through, 0, 1, 2);
    }

    /** "each joined to the one ahead by a WAY that is not SHUT". */
    private static void chainByWaysNotShut() {
        FreePlace x = Check.realmOf("r0 0;t1 1;t3 0;t3 0;w0 1;w2 0;");
        row(x, 0, 1);
        x.shut(0, true);
        row(x, 0, 2);
        x.shut(1, true);
        CHECK.due("no CHAIN", x.chain(0, NONE), NONE);
        CHECK.due("he STANDS", x.come(0), STANDS);
        x.shut(1, false);
        row(x, 0, 2);
        CHECK.due("tables without a WAY", Check.realmOf("r0 0;t1 1;t3 0;").chain(0, NONE), NONE);
    }

    /** "as short as can be". */
    private static void chainIsShortest() {
        FreePlace x = Check.realmOf("r0 0;t1 1;t1 1;t3 0;t3 0;w0 1;w1 2;w0 3;");
        row(x, 0, 3);
        FreePlace longer = Check.realmOf("r0 0;t1 1;t1 1;t1 1;t1 1;t3 0;w0 1;w1 2;w2 4;w0 3;w3 4;");
        row(longer, 0, 3, 4);
    }

    /** "of like ones the first (TABLE by TABLE the lesser number)": at the first, the second, the last that differs. */
    private static void chainIsTheFirstOfLikeOnes() {
        row(Check.realmOf("r0 0;t1 1;t3 0;t3 0;w0 2;w0 1;"), 0, 1);
        row(Check.realmOf("r0 0;t1 1;t1 1;t1 1;t3 0;t3 0;w0 2;w2 3;w0 1;w1 4;"), 0, 1, 4);
        row(Check.realmOf("r0 0;t1 1;t1 1;t1 1;t1 1;t3 0;t3 0;w0 1;w1 3;w1 2;w3 4;w2 5;"), 0, 1, 2, 5);
        row(Check.realmOf("r0 0;t3 0;t3 0;t1 1;t1 1;w2 3;w3 1;w3 0;"), 2, 3, 0);
    }

    /** "One with 2 FREE itself: a CHAIN of that TABLE alone." */
    private static void chainOfThatTableAlone() {
        FreePlace x = Check.realmOf("r0 0;t9 0;t3 1;t2 0;w0 1;w0 2;");
        row(x, 1);
        row(x, 2);
        CHECK.due("nobody moves", x.come(2), 0);
        CHECK.due("he sits there", x.table(2, 1), 1);
        row(x, 2, 0);
    }

    /** A row of nine tables has eight MOVES. */
    private static void chainOfNineTables() {
        FreePlace x = Check.realmOf(NINE_IN_A_ROW);
        row(x, 0, 1, 2, 3, 4, 5, 6, 7, 8);
        CHECK.due("come(0)", x.come(0), 8);
        CHECK.due("come(0) again", x.come(0), 8);
        CHECK.due("no CHAIN left", x.come(0), CRIME);
        counted(x, 16, 1, 1, 3, 0);
    }

    /** "so the last one has one more, the others are as many as they were". */
    private static void lastOneHasOneMore() {
        FreePlace x = Check.realmOf("r0 0;t2 1;t2 2;t5 3;w0 1;w1 2;");
        x.come(0);
        int[] due = {1, 2, 4};
        for (int t = 0; t < due.length; t++) {
            CHECK.due("SIT at " + t, x.table(t, 1), due[t]);
        }
        CHECK.due("1 FREE at the last", x.table(2, 2), 1);
        FreePlace empty = Check.realmOf("r0 0;t1 0;t3 0;w0 1;");
        CHECK.due("he sits, moves up at once", empty.come(0), 1);
        CHECK.due("nobody at the first", empty.table(0, 1), 0);
        CHECK.due("one at the last", empty.table(1, 1), 1);
    }

    /** "MOVES are as many more as the CHAIN has TABLES, less 1". */
    private static void movesAreTablesLessOne() {
        FreePlace x = Check.realmOf("r9 0;t1 1;t1 1;t5 0;w0 1;w1 2;");
        CHECK.due("a CHAIN of one", x.come(2), 0);
        counted(x, 0, 0, 0, 1, 0);
        CHECK.due("a CHAIN of two", x.come(1), 1);
        counted(x, 1, 0, 0, 2, 0);
        CHECK.due("a CHAIN of three", x.come(0), 2);
        counted(x, 3, 0, 0, 3, 0);
    }

    /** "No CHAIN: if 1 is FREE there he SITS (a CRIME)". */
    private static void crimeAtOneFree() {
        FreePlace x = Check.realmOf("r7 0;t3 2;t2 1;w0 1;");
        CHECK.due("come(0)", x.come(0), CRIME);
        CHECK.due("he sits", x.table(0, 1), 3);
        counted(x, 0, 1, 7, 1, 0);
        CHECK.due("come(1)", x.come(1), CRIME);
        counted(x, 0, 2, 14, 2, 0);
    }

    /** "else he STANDS (not counted as sitting; STANDING ones are counted)". */
    private static void standsAtNoneFree() {
        FreePlace x = Check.realmOf("r7 1;t1 0;");
        CHECK.due("1 FREE", x.come(0), CRIME);
        CHECK.due("none FREE", x.come(0), STANDS);
        CHECK.due("none FREE again", x.come(0), STANDS);
        counted(x, 0, 1, 7, 3, 2);
        CHECK.due("all who SIT", x.told(5), 1);
        CHECK.due("who SIT there", x.table(0, 1), 1);
        CHECK.due("one goes", x.go(0), 0);
        CHECK.due("those who STAND go on", x.told(6), 2);
        x.breakOne(0);
        CHECK.due("no seat at all", x.come(0), STANDS);
        counted(x, 0, 1, 7, 4, 3);
    }

    /** A place that is FREE is no CRIME's, while there is a CHAIN. */
    private static void noCrimeWithAChain() {
        FreePlace x = Check.realmOf("r7 0;t2 1;t3 1;w0 1;");
        CHECK.due("1 FREE and a CHAIN", x.come(0), 1);
        counted(x, 1, 0, 0, 1, 0);
        CHECK.due("1 FREE and none", x.come(0), CRIME);
        FreePlace full = Check.realmOf("r7 0;t2 2;t3 1;w0 1;");
        CHECK.due("none FREE and a CHAIN", full.come(0), 1);
        counted(full, 1, 0, 0, 1, 0);
    }

    /** "CRIMES, FINES (F each, 999999 at most), GUESTS are counted." With 9060 GUESTS at most, 999999 is never come to. */
    private static void finesOfNothingAndOf99() {
        int[] each = {0, 1, 99};
        for (int f : each) {
            FreePlace x = Check.realmOf("r" + f + " 0;t1 0;");
            for (int crimes = 1; crimes <= 120; crimes++) {
                CHECK.due("a CRIME", x.come(0), CRIME);
                x.go(0);
                CHECK.due("FINES of " + f, x.told(9), f * crimes);
            }
            counted(x, 0, 120, 120 * f, 120, 0);
        }
    }

    /** Promise 8: "FULL: GUESTS are above 9000". */
    private static void guestsComeUpTo9000() {
        FreePlace x = Lived.guests9000();
        CHECK.due("GUESTS", x.told(10), 9000);
        CHECK.due("one more comes", x.come(0) > FULL ? 1 : 0, 1);
        CHECK.due("GUESTS", x.told(10), 9001);
        CHECK.due("come", x.come(0), FULL);
        CHECK.due("come to the other", x.come(1), FULL);
        CHECK.due("drift", x.drift(1), FULL);
        CHECK.due("UNKNOWN is ahead", x.come(2), FreePlace.UNKNOWN);
        CHECK.due("OUTSIDE is ahead", x.drift(61), FreePlace.OUTSIDE);
        CHECK.due("GUESTS as they were", x.told(10), 9001);
    }

    private static void guestsUndoneComeAgain() {
        FreePlace x = Lived.guests9001();
        CHECK.due("undo", x.undo(), 0);
        CHECK.due("GUESTS", x.told(10), 9000);
        CHECK.due("one comes", x.come(1) > FULL ? 1 : 0, 1);
        CHECK.due("no other", x.come(1), FULL);
        CHECK.due("goBack", x.goBack(0), 1);
        CHECK.due("one comes", x.come(1) > FULL ? 1 : 0, 1);
        CHECK.due("no other", x.come(1), FULL);
    }

    /** Promise 13: "FULL: GUESTS are above 9000 as it is called (n may pass that)". */
    private static void driftMayPass9000() {
        FreePlace x = Lived.guests9000();
        x.seed(0);
        long seed = 0;
        int guests = 9000;
        for (int i = 0; i < 60; i++) {
            seed = Check.drawn(Check.drawn(seed));
            guests += seed / 65536 % 3 != 0 ? 1 : 0;
        }
        CHECK.due("drift(60) at 9000", x.drift(60) >= 0 ? 1 : 0, 1);
        CHECK.due("GUESTS above 9001", guests > 9001 ? 1 : 0, 1);
        CHECK.due("GUESTS", x.told(10), guests);
        CHECK.due("drift(1) then", x.drift(1), FULL);
        CHECK.due("come then", x.come(0), FULL);
    }

    private static void newRealmLetsThemCome() {
        FreePlace x = Lived.guests9001();
        Check.feed(x, "r9 1;t1 0;");
        x.realm();
        CHECK.due("GUESTS", x.told(10), 0);
        CHECK.due("come", x.come(0), CRIME);
        CHECK.due("drift", x.drift(1) >= 0 ? 1 : 0, 1);
    }

    /** Promise 9: "NOT: nobody does". */
    private static void oneGoesDownToNone() {
        FreePlace x = Check.realmOf("r0 0;t12 2;t12 12;t1 0;");
        CHECK.due("go(0)", x.go(0), 1);
        CHECK.due("the last goes", x.go(0), 0);
        CHECK.due("nobody SITS there", x.go(0), NOT);
        CHECK.due("nobody sat there", x.go(2), NOT);
        CHECK.due("of a full one", x.go(1), 11);
        CHECK.due("SEATS stay", x.table(0, 0), 12);
        CHECK.due("what can be undone", x.told(16), 3);
        CHECK.due("GUESTS", x.told(10), 0);
    }

    /** "a SEAT more there (20 at most)"; promise 10: "NOT: ... 20 SEATS". */
    private static void seatsUpTo20() {
        FreePlace x = Check.realmOf("r0 99;t12 12;t11 0;");
        for (int seats = 13; seats <= 20; seats++) {
            CHECK.due("build(0)", x.build(0), seats);
        }
        CHECK.due("at 20 SEATS", x.build(0), NOT);
        CHECK.due("WOOD", x.told(1), 91);
        CHECK.due("SEATS", x.table(0, 0), 20);
        CHECK.due("the other is not at 20", x.build(1), 12);
        x.breakOne(0);
        CHECK.due("at 19 SEATS again", x.build(0), 20);
        CHECK.due("at 20 SEATS again", x.build(0), NOT);
    }

    /** "one WOOD less"; promise 10: "NOT: no WOOD". */
    private static void woodDownToNone() {
        FreePlace x = Check.realmOf("r0 2;t3 1;t3 1;");
        CHECK.due("of 2", x.build(0), 4);
        CHECK.due("WOOD", x.told(1), 1);
        CHECK.due("of 1", x.build(1), 4);
        CHECK.due("WOOD", x.told(1), 0);
        CHECK.due("of none", x.build(0), NOT);
        CHECK.due("of none, the other", x.build(1), NOT);
        CHECK.due("WOOD is none", x.told(1), 0);
        x.undo();
        CHECK.due("WOOD undone", x.told(1), 1);
        CHECK.due("of 1 again", x.build(0), 5);
        CHECK.due("a realm without WOOD", Check.realmOf("r0 0;t3 1;").build(0), NOT);
    }

    /** Both at once are one refusal. */
    private static void noWoodAheadOf20Seats() {
        FreePlace x = Check.realmOf("r0 8;t12 0;");
        for (int i = 0; i < 8; i++) {
            x.build(0);
        }
        CHECK.due("20 SEATS", x.table(0, 0), 20);
        CHECK.due("no WOOD at 20 SEATS", x.build(0), NOT);
        CHECK.due("UNKNOWN is ahead", x.build(1), FreePlace.UNKNOWN);
    }

    /** "BROKEN: one SEAT less"; promise 11: "NOT: none is FREE". */
    private static void brokenDownToNoneFree() {
        FreePlace x = Check.realmOf("r0 5;t5 3;t2 2;");
        CHECK.due("of 2 FREE", x.breakOne(0), 4);
        CHECK.due("of 1 FREE", x.breakOne(0), 3);
        CHECK.due("of none", x.breakOne(0), NOT);
        CHECK.due("none was FREE", x.breakOne(1), NOT);
        CHECK.due("SIT", x.table(0, 1), 3);
        CHECK.due("WOOD is as it was", x.told(1), 5);
        x.go(1);
        CHECK.due("one went", x.breakOne(1), 1);
    }

    private static void brokenDownToNoSeat() {
        FreePlace x = Check.realmOf("r0 5;t1 0;t3 0;w0 1;");
        CHECK.due("the only SEAT", x.breakOne(0), 0);
        CHECK.due("none is FREE", x.breakOne(0), NOT);
        CHECK.due("it does not keep the RULE", x.told(11), 1);
        CHECK.due("it has a CHAIN", x.come(0), 1);
        CHECK.due("built", x.build(0), 1);
        CHECK.due("built again", x.build(0), 2);
        CHECK.due("2 FREE", x.come(0), 0);
    }

    /** Promise 12: "A WAY is SHUT (is) ...: 1 it was SHUT, 0 not". */
    private static void wayShutTwice() {
        FreePlace x = Check.realmOf("r0 0;t1 1;t3 0;t3 0;w0 1;w0 2;");
        CHECK.due("shut", x.shut(0, true), 0);
        CHECK.due("shut again", x.shut(0, true), 1);
        CHECK.due("it is SHUT", x.way(0, 2), 1);
        CHECK.due("SHUT ones", x.told(13), 1);
        CHECK.due("the other", x.shut(1, true), 0);
        CHECK.due("SHUT ones", x.told(13), 3);
        CHECK.due("each can be undone", x.told(16), 3);
        x.undo();
        x.undo();
        CHECK.due("the first is SHUT still", x.told(13), 1);
    }

    /** Promise 12: "or opened". */
    private static void wayOpenedTwice() {
        FreePlace x = Check.realmOf("r0 0;t1 1;t3 0;t3 0;w0 1;w0 2;");
        CHECK.due("opened, was open", x.shut(1, false), 0);
        x.shut(1, true);
        CHECK.due("opened, was SHUT", x.shut(1, false), 1);
        CHECK.due("opened again", x.shut(1, false), 0);
        CHECK.due("SHUT ones", x.told(13), 0);
        CHECK.due("each can be undone", x.told(16), 4);
    }

    /** Promise 13: "n times (1 .. 60)". */
    private static void driftFrom1To60() {
        for (int n : new int[] {1, 2, 59, 60}) {
            FreePlace x = Check.realmOf("r0 0;t12 6;t12 6;");
            CHECK.due("drift(" + n + ")", x.drift(n) >= 0 ? 1 : 0, 1);
            long seed = 0;
            for (int i = 0; i < 2 * n; i++) {
                seed = Check.drawn(seed);
            }
            CHECK.due("two DRAWS each", x.seed(0), seed);
        }
        FreePlace x = Check.realmOf("r0 0;t12 6;t12 6;");
        CHECK.due("drift(0)", x.drift(0), FreePlace.OUTSIDE);
        CHECK.due("drift(61)", x.drift(61), FreePlace.OUTSIDE);
        CHECK.due("drift(-1)", x.drift(-1), FreePlace.OUTSIDE);
        CHECK.due("nothing was drawn", x.seed(0), 0);
        CHECK.due("nothing can be undone", x.told(16), 0);
    }

    /** Promise 13: "NOT: no REALM". */
    private static void driftNeedsARealm() {
        FreePlace x = new FreePlace();
        CHECK.due("drift(1)", x.drift(1), NOT);
        CHECK.due("drift(60)", x.drift(60), NOT);
        CHECK.due("OUTSIDE is ahead", x.drift(61), FreePlace.OUTSIDE);
        CHECK.due("OUTSIDE is ahead", x.drift(0), FreePlace.OUTSIDE);
        Check.feed(x, "r0 0;t1");
        x.realm();
        CHECK.due("a FAULT makes none", x.drift(1), NOT);
        CHECK.due("nothing was drawn", x.seed(0), 0);
    }

    /** "n times, if there are TABLES". */
    private static void driftWithoutTables() {
        FreePlace x = Check.realmOf("r5 5;");
        x.seed(33);
        CHECK.due("drift(60)", x.drift(60), 0);
        CHECK.due("nothing was drawn", x.seed(33), 33);
        CHECK.due("GUESTS", x.told(10), 0);
        CHECK.due("it can be undone", x.told(16), 1);
        CHECK.due("undo", x.undo(), 0);
    }

    /** "a DRAW of TABLES": of one TABLE, too, THE SEED goes a step. */
    private static void driftAtOneTable() {
        FreePlace x = Check.realmOf("r5 5;t12 6;");
        int sit = 6;
        long seed = 0;
        for (int i = 0; i < 100; i++) {
            seed = Check.drawn(Check.drawn(seed));
            boolean goes = seed / 65536 % 3 == 0;
            if (goes) {
                sit = Math.max(0, sit - 1);
            } else {
                sit = Math.min(12, sit + 1);
            }
            CHECK.due("drift(1)", x.drift(1), sit);
        }
        CHECK.due("the seed", x.seed(0), seed);
    }

    /** "the DRAW of n is it / 65536, left over by n". */
    private static void driftOfNineTables() {
        for (int t = 0; t < 9; t++) {
            for (int ofThree = 0; ofThree < 3; ofThree++) {
                FreePlace x = Check.realmOf("r5 5;t9 1;t9 1;t9 1;t9 1;t9 1;t9 1;t9 1;t9 1;t9 1;");
                x.seed(seedFor(9, t, ofThree));
                x.drift(1);
                for (int u = 0; u < 9; u++) {
                    int due = u != t ? 1 : ofThree == 0 ? 0 : 2;
                    CHECK.due("SIT at " + u + " of a DRAW of " + t + ", " + ofThree, x.table(u, 1), due);
                }
            }
        }
    }

    /** "of 3: on 0 one GOES ...; on 1, 2 a GUEST COMES". */
    private static void driftOfThree() {
        int[] guests = {0, 1, 1};
        for (int ofThree = 0; ofThree < 3; ofThree++) {
            FreePlace x = Check.realmOf("r5 5;t1 1;t9 1;w0 1;");
            x.seed(seedFor(2, 0, ofThree));
            CHECK.due("who SIT on " + ofThree, x.drift(1), ofThree == 0 ? 1 : 3);
            CHECK.due("GUESTS on " + ofThree, x.told(10), guests[ofThree]);
            CHECK.due("MOVES on " + ofThree, x.told(7), guests[ofThree]);
        }
    }

    /** "if one SITS there (nothing, if nobody does)". */
    private static void nobodyThereToGo() {
        FreePlace x = Check.realmOf("r5 5;t9 0;t9 2;");
        int seed = seedFor(2, 0, 0);
        x.seed(seed);
        CHECK.due("all who SIT", x.drift(1), 2);
        CHECK.due("SIT there", x.table(0, 1), 0);
        CHECK.due("GUESTS", x.told(10), 0);
        CHECK.due("it can be undone", x.told(16), 1);
        CHECK.due("both were drawn", x.seed(0), Check.drawn(Check.drawn(seed)));
    }

    /** Promise 13: "all who SIT": not those who STAND. */
    private static void driftAnswersWhoSit() {
        FreePlace x = Check.realmOf("r5 5;t1 1;t2 2;");
        x.seed(seedFor(2, 1, 2));
        CHECK.due("all who SIT", x.drift(1), 3);
        CHECK.due("STANDING", x.told(6), 1);
    }

    /** "(20 at most are kept ...)"; promise 14: "how many more can be. NOT: none". */
    private static void undoneAreTwenty() {
        FreePlace x = Check.realmOf("r0 0;t12 0;");
        CHECK.due("none", x.undo(), NOT);
        for (int i = 1; i <= 20; i++) {
            x.come(0);
            CHECK.due("can be undone", x.told(16), i);
        }
        for (int left = 19; left >= 0; left--) {
            CHECK.due("undo", x.undo(), left);
            CHECK.due("GUESTS", x.told(10), left);
            CHECK.due("can be undone", x.told(16), left);
        }
        CHECK.due("none is left", x.undo(), NOT);
        CHECK.due("none is left still", x.undo(), NOT);
        CHECK.due("GUESTS", x.told(10), 0);
    }

    /** "the oldest are lost". */
    private static void oldestAreLost() {
        for (int lost = 1; lost <= 41; lost += 20) {
            FreePlace x = Check.realmOf("r0 0;t12 0;");
            for (int i = 1; i <= 20 + lost; i++) {
                x.come(0);
            }
            CHECK.due("can be undone", x.told(16), 20);
            for (int left = 19; left >= 0; left--) {
                CHECK.due("undo", x.undo(), left);
                CHECK.due("GUESTS", x.told(10), lost + left);
            }
            CHECK.due("the oldest are lost", x.undo(), NOT);
            CHECK.due("GUESTS", x.told(10), lost);
        }
    }

    private static void undoneRowGoesRound() {
        FreePlace x = Check.realmOf("r0 0;t12 0;");
        int guests = 0;
        int kept = 0;
        for (int round = 1; round <= 9; round++) {
            for (int i = 0; i < 2 * round; i++) {
                x.come(0);
                guests++;
                kept = Math.min(20, kept + 1);
            }
            for (int i = 0; i < round && kept > 0; i++) {
                kept--;
                guests--;
                CHECK.due("undo", x.undo(), kept);
                CHECK.due("GUESTS", x.told(10), guests);
            }
        }
        CHECK.due("can be undone", x.told(16), kept);
    }

    /** "the latest of come(), go(), build(), breakOne(), shut(), drift() ...: all of section 2 is as ahead of it". */
    private static void undoneKinds() {
        String[] before = new String[8];
        FreePlace x = Check.realmOf("r4 3;t2 1;t1 1;t3 1;w0 1;w1 2;");
        for (int step = 0; step < 8; step++) {
            before[step] = Check.state(x);
            switch (step) {
                case 0: CHECK.due("MOVES", x.come(0), 2); break;
                case 1: CHECK.due("a CRIME", x.come(0), CRIME); break;
                case 2: CHECK.due("STANDS", x.come(1), STANDS); break;
                case 3: CHECK.due("GOES", x.go(2), 1); break;
                case 4: CHECK.due("BUILT", x.build(1), 2); break;
                case 5: CHECK.due("BROKEN", x.breakOne(2), 2); break;
                case 6: CHECK.due("SHUT", x.shut(1, true), 0); break;
                default: CHECK.due("BY DRAWS", x.drift(20) >= 0 ? 1 : 0, 1);
            }
        }
        for (int step = 7; step >= 0; step--) {
            CHECK.due("undo", x.undo(), step);
            CHECK.due("as ahead of it", before[step].equals(Check.state(x)) ? 1 : 0, 1);
        }
    }

    /** "that was not refused"; no other call can be undone. */
    private static void otherCallsAreNotUndone() {
        FreePlace x = Check.realmOf("r0 1;t1 0;t1 1;w0 1;");
        x.come(0);
        x.come(2);
        x.go(2);
        x.build(2);
        x.breakOne(2);
        x.shut(1, true);
        x.drift(0);
        x.breakOne(0);
        CHECK.due("what was refused is not kept", x.told(16), 1);
        x.see(0, true);
        x.write(0, 3);
        x.tear();
        x.seed(7);
        x.two(0, 1, 1);
        x.chairs(3, 1, NONE);
        x.feed('r');
        x.realm();
        CHECK.due("nor is what is no act", x.told(16), 1);
        CHECK.due("undo", x.undo(), 0);
        CHECK.due("as ahead of come(0)", x.told(5), 1);
    }

    /** "THE SEED stays"; what is SEEN and THE BOOK are not of section 2. */
    private static void undoLeavesSeedAndBooks() {
        FreePlace x = Check.realmOf("r0 1;t9 3;t1 1;w0 1;");
        x.drift(5);
        int seed = x.seed(0);
        x.seed(seed);
        x.see(1, true);
        x.write(0, 20);
        x.feed('r');
        CHECK.due("undo", x.undo(), 0);
        CHECK.due("the seed", x.seed(0), seed);
        CHECK.due("what is SEEN", x.told(14), 1);
        CHECK.due("THE BOOK", x.judge(), 0);
        CHECK.due("THE TEXT", x.told(4), 1);
    }

    /** Promises 29, 30: "(nothing can be undone then)"; promise 3: "what could be undone are gone". */
    private static void undoneIsGoneByImages() {
        FreePlace x = Check.realmOf("r0 1;t9 3;");
        x.come(0);
        x.keep(0);
        CHECK.due("behind keep", x.undo(), NOT);
        x.come(0);
        CHECK.due("can be undone", x.told(16), 1);
        x.goBack(1);
        CHECK.due("behind what was refused", x.told(16), 1);
        x.goBack(0);
        CHECK.due("behind goBack", x.undo(), NOT);
        x.come(0);
        CHECK.due("can be undone", x.told(16), 1);
        CHECK.due("undo", x.undo(), 0);
        CHECK.due("as the image", x.table(0, 1), 4);
        x.come(0);
        Check.feed(x, "r0 1;t9 3;");
        x.realm();
        CHECK.due("behind realm", x.undo(), NOT);
    }
}
