/** The bounds of what is seen, written, drawn, kept: SEEN, CAME, LOOK, THE BOOK, THE SEED, IMAGES, promises 22 to 30. */
final class SeenBoundsTest {
    private static final Check CHECK = new Check("SeenBoundsTest");
    private static final int NONE = FreePlace.NONE;
    private static final int NOT = FreePlace.NOT;
    private static final int FULL = FreePlace.FULL;
    private static final int OUTSIDE = FreePlace.OUTSIDE;
    private static final int UNKNOWN = FreePlace.UNKNOWN;
    private static final int GREATEST_SEED = 2147483647;
    /** Chains: 0 1 2 5; 1 2 5; 2 5; 3 2 5; 4 none; 5. */
    private static final String TREE = "r2 3;t1 1;t1 1;t1 1;t1 1;t1 1;t4 0;w0 1;w1 2;w2 5;w3 2;";

    private SeenBoundsTest() {
    }

    public static void main(String[] args) {
        seenAreSix();
        cameByAllThatIsSeen();
        cameOfNothingSeen();
        nobodyMovesUpFromTheLast();
        cameWithAChain();
        cameOfLikeSights();
        cameAgainstEachOther();
        cameAsChainsAreNow();
        lookParts();
        lookOfLikeOnesTheLeast();
        lookWhereNonePartsThem();
        lookAtOneOrNone();
        bookHasFifteen();
        sitFrom0To20();
        writeRefusedInOrder();
        tearTellsBoth();
        wrongIsTheFirst();
        wrongIsAsOfNow();
        seedIs0AtFirst();
        seedFrom0ToTheGreatest();
        seedStepIsLeftOver();
        imagesAre0And1();
        imagesAreKeptApart();
        imageIsKeptAnew();
        imageGivesAllOfSection2();
        imageOfNoRealm();
        goBackAsOftenAsAsked();
        booksAreNotInImages();
        CHECK.close();
    }

    /** "SEEN (6 at most)"; promise 22: "how much. UNKNOWN, FULL (6)". */
    private static void seenAreSix() {
        FreePlace x = Check.realmOf(TREE);
        for (int i = 1; i <= 6; i++) {
            CHECK.due("see", x.see(i % 3, i % 2 == 0), i);
            CHECK.due("SEEN", x.told(14), i);
        }
        CHECK.due("a seventh", x.see(0, true), FULL);
        CHECK.due("a seventh that is not", x.see(5, false), FULL);
        CHECK.due("UNKNOWN is ahead", x.see(6, true), UNKNOWN);
        CHECK.due("UNKNOWN is ahead", x.see(-1, false), UNKNOWN);
        CHECK.due("SEEN", x.told(14), 6);
        x.tear();
        CHECK.due("the first again", x.see(0, true), 1);
        FreePlace five = Check.realmOf(TREE);
        for (int i = 0; i < 5; i++) {
            five.see(2, true);
        }
        CHECK.due("by 2", five.came(), 15);
        five.see(3, true);
        CHECK.due("the sixth counts", five.came(), 8);
        five.see(5, true);
        CHECK.due("the seventh does not", five.came(), 8);
    }

    /** "TABLES (a SET) with a CHAIN, by which all that is SEEN is so". */
    private static void cameByAllThatIsSeen() {
        FreePlace x = Check.realmOf(TREE);
        x.see(2, true);
        CHECK.due("by 2", x.came(), 15);
        x.see(1, true);
        CHECK.due("by 2, 1", x.came(), 3);
        x.see(0, false);
        CHECK.due("by 2, 1, not 0", x.came(), 2);
        x.see(3, false);
        CHECK.due("nor 3", x.came(), 2);
        x.see(1, false);
        CHECK.due("nor 1", x.came(), 0);
    }

    private static void cameOfNothingSeen() {
        CHECK.due("all with a CHAIN", Check.realmOf(TREE).came(), 47);
        CHECK.due("none with one", Check.realmOf("r0 0;t1 1;t2 1;w0 1;").came(), 0);
        CHECK.due("all nine", Check.realmOf("r0 0;t2 0;t2 0;t2 0;t2 0;t2 0;t2 0;t2 0;t2 0;t2 0;").came(), 511);
        CHECK.due("no TABLES", Check.realmOf("r0 0;").came(), 0);
        CHECK.due("no REALM", new FreePlace().came(), 0);
    }

    /** "(nobody from the last)". */
    private static void nobodyMovesUpFromTheLast() {
        FreePlace x = Check.realmOf(TREE);
        x.see(5, true);
        CHECK.due("none by 5", x.came(), 0);
        x.tear();
        x.see(5, false);
        CHECK.due("all not by 5", x.came(), 47);
        x.see(2, false);
        CHECK.due("5 alone not by 2", x.came(), 32);
        FreePlace one = Check.realmOf("r0 0;t2 0;");
        one.see(0, true);
        CHECK.due("a CHAIN of one", one.came(), 0);
        one.tear();
        one.see(0, false);
        CHECK.due("nobody moved", one.came(), 1);
    }

    /** A TABLE without a CHAIN is none of them, though nobody moved up from anywhere. */
    private static void cameWithAChain() {
        FreePlace x = Check.realmOf(TREE);
        x.see(0, false);
        x.see(1, false);
        x.see(2, false);
        CHECK.due("5 alone", x.came(), 32);
        x.see(4, true);
        CHECK.due("none by 4", x.came(), 0);
        FreePlace crimes = Check.realmOf("r0 0;t2 1;t1 1;");
        crimes.see(0, false);
        crimes.see(1, false);
        CHECK.due("no CHAIN at all", crimes.came(), 0);
    }

    private static void cameOfLikeSights() {
        FreePlace x = Check.realmOf(TREE);
        for (int i = 1; i <= 6; i++) {
            CHECK.due("see", x.see(3, true), i);
            CHECK.due("3 alone", x.came(), 8);
        }
    }

    private static void cameAgainstEachOther() {
        FreePlace x = Check.realmOf(TREE);
        x.see(3, false);
        x.see(3, true);
        CHECK.due("3 both ways", x.came(), 0);
        CHECK.due("nothing to look at", x.look(), NONE);
    }

    /** "the greatest part that is alike is least". */
    private static void lookParts() {
        FreePlace x = Check.realmOf(TREE);
        // 0 1 2 3 5 fit: by 0 one and four, by 1 two and three, by 2 four and one, by 3 one and four.
        CHECK.due("the best", x.look(), 1);
        x.see(1, true);
        CHECK.due("0 and 1 are left", x.look(), 0);
        x.see(0, false);
        CHECK.due("1 is left", x.look(), NONE);
        FreePlace row = Check.realmOf("r0 0;t1 0;t1 0;t1 0;t1 0;t1 0;t1 0;t1 0;t1 0;t3 0;"
                + "w0 1;w1 2;w2 3;w3 4;w4 5;w5 6;w6 7;w7 8;");
        CHECK.due("nine in a row", row.look(), 3);
        row.see(3, true);
        CHECK.due("four are left", row.look(), 1);
        row.see(1, false);
        CHECK.due("two are left", row.look(), 2);
        row.see(2, false);
        CHECK.due("one is left", row.look(), NONE);
    }

    /** "of like ones the least". */
    private static void lookOfLikeOnesTheLeast() {
        FreePlace x = Check.realmOf("r0 0;t3 0;t1 1;t1 1;t1 1;w0 3;w0 2;w0 1;");
        CHECK.due("1 ahead of 2, 3", x.look(), 1);
        x.see(1, false);
        CHECK.due("2 ahead of 3", x.look(), 2);
        FreePlace parts = Check.realmOf("r0 0;t1 1;t1 1;t1 1;t3 0;w0 1;w1 2;w2 3;");
        // By 0 one and three, by 1 two and two, by 2 three and one.
        CHECK.due("the even parts", parts.look(), 1);
    }

    /** "NONE: none parts them". */
    private static void lookWhereNonePartsThem() {
        CHECK.due("nobody moves from any", Check.realmOf("r0 0;t3 0;t3 0;w0 1;").look(), NONE);
        FreePlace x = Check.realmOf("r0 0;t3 0;t3 0;t1 1;w1 2;");
        CHECK.due("one parts them", x.look(), 2);
        x.see(2, false);
        CHECK.due("0 and 1 are left", x.came(), 3);
        CHECK.due("none parts these", x.look(), NONE);
    }

    /** "(one TABLE, none: too)". */
    private static void lookAtOneOrNone() {
        CHECK.due("no REALM", new FreePlace().look(), NONE);
        CHECK.due("no TABLES", Check.realmOf("r0 0;").look(), NONE);
        CHECK.due("one TABLE", Check.realmOf("r0 0;t3 0;").look(), NONE);
        CHECK.due("one TABLE without a CHAIN", Check.realmOf("r0 0;t1 0;").look(), NONE);
        CHECK.due("none that fits", Check.realmOf("r0 0;t1 1;t2 1;w0 1;").look(), NONE);
        FreePlace one = Check.realmOf(TREE);
        one.see(3, true);
        CHECK.due("one that fits", one.came(), 8);
        CHECK.due("nothing to part", one.look(), NONE);
        CHECK.due("two that fit", Check.realmOf("r0 0;t3 0;t1 1;w0 1;").look(), 1);
    }

    /** "THE BOOK (15 at most)"; promise 25: "how many ... FULL (15)". */
    private static void bookHasFifteen() {
        FreePlace x = Check.realmOf(TREE);
        for (int i = 1; i <= 15; i++) {
            CHECK.due("write", x.write(0, i < 15 ? 1 : 2), i);
            CHECK.due("entries", x.told(15), i);
        }
        CHECK.due("a sixteenth", x.write(0, 1), FULL);
        CHECK.due("entries", x.told(15), 15);
        CHECK.due("the fifteenth is WRONG", x.judge(), 14);
        x.tear();
        CHECK.due("the first again", x.write(5, 0), 1);
        FreePlace right = Check.realmOf(TREE);
        for (int i = 0; i < 15; i++) {
            right.write(1, 1);
        }
        right.write(1, 2);
        CHECK.due("the sixteenth is not in it", right.judge(), NONE);
    }

    /** Promise 25: "(0 .. 20)". */
    private static void sitFrom0To20() {
        FreePlace x = Check.realmOf(TREE);
        CHECK.due("write(0, -1)", x.write(0, -1), OUTSIDE);
        CHECK.due("write(0, 21)", x.write(0, 21), OUTSIDE);
        CHECK.due("no entry", x.told(15), 0);
        CHECK.due("write(5, 0)", x.write(5, 0), 1);
        CHECK.due("it is so", x.judge(), NONE);
        CHECK.due("write(5, 20)", x.write(5, 20), 2);
        CHECK.due("it is not", x.judge(), 1);
        FreePlace twenty = Check.realmOf("r0 8;t12 12;");
        for (int i = 0; i < 8; i++) {
            twenty.build(0);
            twenty.come(0);
        }
        twenty.write(0, 20);
        CHECK.due("20 SIT", twenty.judge(), NONE);
    }

    /** "UNKNOWN, OUTSIDE, FULL": of several the first. */
    private static void writeRefusedInOrder() {
        FreePlace x = Check.realmOf(TREE);
        CHECK.due("UNKNOWN ahead of OUTSIDE", x.write(6, 21), UNKNOWN);
        CHECK.due("UNKNOWN ahead of OUTSIDE", x.write(-1, -1), UNKNOWN);
        for (int i = 0; i < 15; i++) {
            x.write(0, 1);
        }
        CHECK.due("UNKNOWN ahead of FULL", x.write(6, 1), UNKNOWN);
        CHECK.due("UNKNOWN ahead of both", x.write(6, 21), UNKNOWN);
        CHECK.due("OUTSIDE ahead of FULL", x.write(0, 21), OUTSIDE);
        CHECK.due("OUTSIDE ahead of FULL", x.write(0, -1), OUTSIDE);
        CHECK.due("FULL", x.write(0, 20), FULL);
    }

    /** Promise 26: "how much both had". */
    private static void tearTellsBoth() {
        FreePlace x = Check.realmOf(TREE);
        CHECK.due("nothing", x.tear(), 0);
        for (int i = 0; i < 15; i++) {
            x.see(2, true);
            x.write(0, 0);
        }
        CHECK.due("6 and 15", x.tear(), 21);
        CHECK.due("nothing SEEN", x.told(14), 0);
        CHECK.due("an empty BOOK", x.told(15), 0);
        CHECK.due("all fit again", x.came(), 47);
        CHECK.due("nothing WRONG", x.judge(), NONE);
        CHECK.due("nothing again", x.tear(), 0);
        x.see(2, true);
        CHECK.due("SEEN alone", x.tear(), 1);
        x.write(2, 1);
        CHECK.due("THE BOOK alone", x.tear(), 1);
        CHECK.due("without a REALM", new FreePlace().tear(), 0);
        x.see(2, false);
        CHECK.due("not by 2", x.came(), 32);
        CHECK.due("what was not, too", x.tear(), 1);
        CHECK.due("all fit again", x.came(), 47);
        x.see(1, false);
        x.see(1, true);
        Check.feed(x, TREE);
        x.realm();
        CHECK.due("all fit in a new realm", x.came(), 47);
    }

    /** CHAINS are those of now. */
    private static void cameAsChainsAreNow() {
        FreePlace x = Check.realmOf(TREE);
        x.see(1, true);
        CHECK.due("by 1", x.came(), 3);
        x.build(1);
        CHECK.due("1 FREE at 1", x.came(), 3);
        x.build(1);
        CHECK.due("2 FREE at 1: it is the last", x.came(), 0);
        x.shut(1, true);
        x.breakOne(1);
        CHECK.due("no CHAIN by 1", x.came(), 0);
        x.shut(1, false);
        CHECK.due("by 1 again", x.came(), 3);
        x.go(0);
        CHECK.due("1 FREE at 0", x.came(), 3);
    }

    /** "WRONG: the first that is otherwise now; NONE". */
    private static void wrongIsTheFirst() {
        FreePlace x = Check.realmOf("r0 0;t5 2;t5 3;");
        CHECK.due("an empty BOOK", x.judge(), NONE);
        x.write(1, 3);
        CHECK.due("it is so", x.judge(), NONE);
        x.write(0, 3);
        x.write(0, 1);
        CHECK.due("one more", x.judge(), 1);
        x.tear();
        x.write(0, 1);
        x.write(0, 3);
        CHECK.due("one less, numbered from 0", x.judge(), 0);
        CHECK.due("without a REALM", new FreePlace().judge(), NONE);
    }

    private static void wrongIsAsOfNow() {
        FreePlace x = Check.realmOf("r0 0;t5 2;t5 3;");
        x.write(0, 2);
        x.write(1, 3);
        x.come(1);
        CHECK.due("the second", x.judge(), 1);
        x.go(0);
        CHECK.due("the first", x.judge(), 0);
        x.come(0);
        x.go(1);
        CHECK.due("as written", x.judge(), NONE);
    }

    /** "THE SEED (0 at first ...)". */
    private static void seedIs0AtFirst() {
        CHECK.due("seed(0)", new FreePlace().seed(0), 0);
        FreePlace x = Check.realmOf("r0 0;t5 2;");
        x.drift(1);
        CHECK.due("two DRAWS from 0", x.seed(0), Check.drawn(12345));
    }

    /** Promise 28: "(0 .. 2147483647)". */
    private static void seedFrom0ToTheGreatest() {
        FreePlace x = new FreePlace();
        CHECK.due("seed(greatest)", x.seed(GREATEST_SEED), 0);
        CHECK.due("seed(-1)", x.seed(-1), OUTSIDE);
        CHECK.due("seed(least)", x.seed(Integer.MIN_VALUE), OUTSIDE);
        CHECK.due("seed(0)", x.seed(0), GREATEST_SEED);
        CHECK.due("seed(1)", x.seed(1), 0);
        CHECK.due("seed(1) again", x.seed(1), 1);
    }

    /** "it becomes it times 1103515245 and 12345, left over by 2 to the 31". */
    private static void seedStepIsLeftOver() {
        int[] seeds = {0, 1, 2, 65535, 65536, 1073741823, 1073741824, GREATEST_SEED - 1, GREATEST_SEED};
        for (int seed : seeds) {
            FreePlace x = Check.realmOf("r0 0;t5 2;");
            x.seed(seed);
            x.drift(1);
            CHECK.due("two DRAWS from " + seed, x.seed(0), Check.drawn(Check.drawn(seed)));
        }
    }

    /** "IMAGES 0, 1"; promises 29, 30: "UNKNOWN, NOT: it was not kept". */
    private static void imagesAre0And1() {
        FreePlace x = Check.realmOf(TREE);
        CHECK.due("goBack(0), not kept", x.goBack(0), NOT);
        CHECK.due("goBack(1), not kept", x.goBack(1), NOT);
        CHECK.due("keep(-1)", x.keep(-1), UNKNOWN);
        CHECK.due("keep(2)", x.keep(2), UNKNOWN);
        CHECK.due("goBack(-1)", x.goBack(-1), UNKNOWN);
        CHECK.due("goBack(2)", x.goBack(2), UNKNOWN);
        CHECK.due("keep(1)", x.keep(1), 1);
        CHECK.due("goBack(0), not kept still", x.goBack(0), NOT);
        CHECK.due("goBack(1)", x.goBack(1), 1);
        CHECK.due("keep(0)", x.keep(0), 1);
        CHECK.due("goBack(0)", x.goBack(0), 1);
    }

    private static void imagesAreKeptApart() {
        FreePlace x = Check.realmOf(TREE);
        x.seed(10);
        x.keep(0);
        x.come(5);
        x.seed(11);
        x.keep(1);
        x.come(5);
        x.seed(12);
        x.goBack(0);
        CHECK.due("image 0", x.table(5, 1), 0);
        CHECK.due("its seed", x.seed(13), 10);
        x.goBack(1);
        CHECK.due("image 1", x.table(5, 1), 1);
        CHECK.due("its seed", x.seed(14), 11);
        x.goBack(0);
        CHECK.due("image 0 as it was", x.table(5, 1), 0);
        CHECK.due("its seed as it was", x.seed(15), 10);
    }

    private static void imageIsKeptAnew() {
        FreePlace x = Check.realmOf(TREE);
        x.keep(0);
        x.come(5);
        x.seed(8);
        x.keep(0);
        x.come(5);
        x.seed(9);
        x.goBack(0);
        CHECK.due("the later one", x.table(5, 1), 1);
        CHECK.due("its seed", x.seed(0), 8);
    }

    /** "IMAGES 0, 1 keep all of section 2, THE SEED." */
    private static void imageGivesAllOfSection2() {
        FreePlace x = Check.realmOf(TREE);
        x.come(4);
        x.come(0);
        x.come(5);
        x.come(5);
        x.come(5);
        x.build(5);
        x.breakOne(5);
        x.shut(3, true);
        x.go(2);
        x.seed(500);
        String kept = Check.state(x);
        x.keep(1);
        x.drift(60);
        x.shut(3, false);
        x.shut(0, true);
        x.build(1);
        x.breakOne(1);
        x.come(4);
        CHECK.due("otherwise now", kept.equals(Check.state(x)) ? 1 : 0, 0);
        x.goBack(1);
        CHECK.due("all of section 2: " + kept + " is " + Check.state(x), kept.equals(Check.state(x)) ? 1 : 0, 1);
        CHECK.due("the seed", x.seed(0), 500);
    }

    /** keep() is refused for UNKNOWN alone. */
    private static void imageOfNoRealm() {
        FreePlace x = new FreePlace();
        x.seed(3);
        CHECK.due("keep(1)", x.keep(1), 1);
        x.seed(4);
        CHECK.due("goBack(1)", x.goBack(1), 1);
        CHECK.due("its seed", x.seed(5), 3);
        CHECK.due("no REALM", x.drift(1), NOT);
        Check.feed(x, TREE);
        x.realm();
        CHECK.due("gone by a realm", x.goBack(1), NOT);
    }

    private static void goBackAsOftenAsAsked() {
        FreePlace x = Check.realmOf(TREE);
        x.keep(0);
        for (int i = 0; i < 5; i++) {
            x.drift(10);
            CHECK.due("goBack(0)", x.goBack(0), 1);
            CHECK.due("GUESTS", x.told(10), 0);
            CHECK.due("nothing can be undone", x.told(16), 0);
        }
    }

    /** What is SEEN, THE BOOK, THE TEXT, the FAULT are not of section 2. */
    private static void booksAreNotInImages() {
        FreePlace x = Check.realmOf(TREE);
        x.see(2, true);
        x.write(0, 0);
        x.keep(0);
        x.see(1, true);
        x.write(0, 1);
        Check.feed(x, "xx");
        x.goBack(0);
        CHECK.due("SEEN", x.told(14), 2);
        CHECK.due("entries", x.told(15), 2);
        CHECK.due("letters", x.told(4), 2);
        CHECK.due("came", x.came(), 3);
        x.tear();
        x.goBack(0);
        CHECK.due("SEEN no more", x.told(14), 0);
        CHECK.due("no entries", x.told(15), 0);
    }
}
