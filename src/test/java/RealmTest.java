/** Promises 1 to 7: a new object, feed, realm, fault, told, table, way. */
final class RealmTest {
    private static final Check CHECK = new Check("RealmTest");
    private static final String NINE = "t1 0;t1 0;t1 0;t1 0;t1 0;t1 0;t1 0;t1 0;t1 0;";

    private RealmTest() {
    }

    public static void main(String[] args) {
        newObject();
        feeding();
        realmOfText();
        realmForgets();
        realmLeavesAll();
        faultsOfWords();
        faultsOfNumbers();
        faultsOfTooMany();
        faultsOfWays();
        telling();
        tables();
        ways();
        CHECK.close();
    }

    /** Promise 1. */
    private static void newObject() {
        FreePlace x = new FreePlace();
        for (int what = 0; what <= 16; what++) {
            CHECK.due("new: told(" + what + ")", x.told(what), 0);
        }
        CHECK.due("new: fault()", x.fault(), FreePlace.NONE);
        CHECK.due("new: seed(5)", x.seed(5), 0);
        CHECK.due("new: drift(1)", x.drift(1), FreePlace.NOT);
        CHECK.due("new: undo()", x.undo(), FreePlace.NOT);
        CHECK.due("new: goBack(0)", x.goBack(0), FreePlace.NOT);
        CHECK.due("new: goBack(1)", x.goBack(1), FreePlace.NOT);
        CHECK.due("new: table(0, 0)", x.table(0, 0), FreePlace.UNKNOWN);
        CHECK.due("new: way(0, 0)", x.way(0, 0), FreePlace.UNKNOWN);
        CHECK.due("new: come(0)", x.come(0), FreePlace.UNKNOWN);
        CHECK.due("new: far(0)", x.far(0), FreePlace.NONE);
        CHECK.due("new: came()", x.came(), 0);
        CHECK.due("new: judge()", x.judge(), FreePlace.NONE);
    }

    /** Promise 2. */
    private static void feeding() {
        FreePlace x = new FreePlace();
        CHECK.due("feed(-1)", x.feed(-1), FreePlace.OUTSIDE);
        CHECK.due("feed(256)", x.feed(256), FreePlace.OUTSIDE);
        CHECK.due("feed(least)", x.feed(Integer.MIN_VALUE), FreePlace.OUTSIDE);
        CHECK.due("letters of what was refused", x.told(4), 0);
        CHECK.due("feed(0)", x.feed(0), 1);
        CHECK.due("feed(255)", x.feed(255), 2);
        for (int i = 2; i < 240; i++) {
            CHECK.due("feed the " + i + "th", x.feed(' '), i + 1);
        }
        CHECK.due("feed the 241st", x.feed(' '), FreePlace.FULL);
        CHECK.due("OUTSIDE is ahead of FULL", x.feed(-1), FreePlace.OUTSIDE);
        CHECK.due("letters of a full text", x.told(4), 240);
        CHECK.due("realm of 0, 255", x.realm(), -11);
        CHECK.due("its fault", x.fault(), 0);
        CHECK.due("the text is empty then", x.feed('r'), 1);
    }

    /** Promise 3: what a text makes. */
    private static void realmOfText() {
        FreePlace x = Check.realmOf("  r  07  099 ; t 12 012;t1 0;w 1   0 ;  ");
        CHECK.due("F", x.told(0), 7);
        CHECK.due("WOOD", x.told(1), 99);
        CHECK.due("TABLES", x.told(2), 2);
        CHECK.due("WAYS", x.told(3), 1);
        CHECK.due("letters", x.told(4), 0);
        CHECK.due("SEATS", x.table(0, 0), 12);
        CHECK.due("SIT", x.table(0, 1), 12);
        CHECK.due("A", x.way(0, 0), 1);
        CHECK.due("B", x.way(0, 1), 0);
        CHECK.due("fault of none", x.fault(), FreePlace.NONE);
        FreePlace bare = Check.fed("r0 99;");
        CHECK.due("a realm without tables", bare.realm(), 0);
        CHECK.due("its WOOD", bare.told(1), 99);
        CHECK.due("there is a realm", bare.drift(3), 0);
        CHECK.due("the drift can be undone", bare.told(16), 1);
        CHECK.due("nothing was drawn", bare.seed(1), 0);
        FreePlace mixed = Check.fed("r1 1;t2 0;t2 0;w0 1;t2 0;w2 0;");
        CHECK.due("ways between tables", mixed.realm(), 3);
        CHECK.due("the last way", mixed.way(1, 0), 2);
        FreePlace longest = Check.fed("r99 99;" + NINE
                + "w0 1;w0 2;w0 3;w0 4;w0 5;w0 6;w0 7;w0 8;w1 2;w1 3;w1 4;w1 5;w1 6;w1 7;");
        CHECK.due("nine tables", longest.realm(), 9);
        CHECK.due("fourteen ways", longest.told(3), 14);
    }

    /** Promise 3: a realm begins anew; the seed stays. */
    private static void realmForgets() {
        FreePlace x = Check.realmOf("r7 2;t1 1;t3 0;w0 1;");
        x.seed(77);
        x.come(0);
        x.come(0);
        x.come(0);
        x.come(1);
        CHECK.due("one stands, one crime", x.told(6) + x.told(8), 2);
        x.shut(0, true);
        x.see(0, true);
        x.write(0, 3);
        x.build(0);
        x.keep(0);
        x.go(1);
        CHECK.due("can be undone", x.told(16), 1);
        Check.feed(x, "r9 3;t4 1;");
        CHECK.due("a new realm", x.realm(), 1);
        int[] due = {9, 3, 1, 0, 0, 1, 0, 0, 0, 0, 0, 0, 0, 0, 0, 0, 0};
        for (int what = 0; what <= 16; what++) {
            CHECK.due("new realm: told(" + what + ")", x.told(what), due[what]);
        }
        CHECK.due("images are gone", x.goBack(0), FreePlace.NOT);
        CHECK.due("the seed stays", x.seed(0), 77);
        CHECK.due("judge of no book", x.judge(), FreePlace.NONE);
        CHECK.due("came of nothing seen", x.came(), 1);
        for (String blank : new String[] {"", "    "}) {
            FreePlace y = Check.realmOf("r7 2;t1 1;t3 0;w0 1;");
            y.come(0);
            y.keep(1);
            Check.feed(y, blank);
            CHECK.due("realm of blanks", y.realm(), 0);
            CHECK.due("no fault", y.fault(), FreePlace.NONE);
            for (int what = 0; what <= 16; what++) {
                CHECK.due("no realm: told(" + what + ")", y.told(what), 0);
            }
            CHECK.due("no realm: drift", y.drift(1), FreePlace.NOT);
            CHECK.due("no realm: table", y.table(0, 0), FreePlace.UNKNOWN);
            CHECK.due("no realm: way", y.way(0, 0), FreePlace.UNKNOWN);
            CHECK.due("no realm: the image is gone", y.goBack(1), FreePlace.NOT);
        }
    }

    /** Promise 3: a text with a fault changes nothing but the text. */
    private static void realmLeavesAll() {
        FreePlace x = Check.realmOf("r7 2;t1 1;t3 0;w0 1;");
        x.come(0);
        x.see(0, true);
        x.write(0, 3);
        x.keep(0);
        x.go(1);
        Check.feed(x, "r1 1;t5 5;t4 4;w0 0;");
        CHECK.due("a fault", x.realm(), -14);
        CHECK.due("its place", x.fault(), 18);
        CHECK.due("the text is empty", x.told(4), 0);
        int[] due = {7, 2, 2, 1, 0, 1, 0, 1, 0, 0, 1, 1, 0, 0, 1, 1, 1};
        for (int what = 0; what <= 16; what++) {
            CHECK.due("left: told(" + what + ")", x.told(what), due[what]);
        }
        CHECK.due("left: way", x.way(0, 1), 1);
        CHECK.due("left: seats", x.table(1, 0), 3);
        CHECK.due("left: undo", x.undo(), 0);
        CHECK.due("left: goBack", x.goBack(0), 1);
        Check.feed(x, "r1 1;");
        CHECK.due("the next is read alone", x.realm(), 0);
        CHECK.due("no fault now", x.fault(), FreePlace.NONE);
        FreePlace none = Check.fed("r0");
        CHECK.due("a fault without a realm", none.realm(), -11);
        CHECK.due("still no realm", none.drift(1), FreePlace.NOT);
    }

    private static void fault(String text, int number, int place) {
        FreePlace x = Check.fed(text);
        CHECK.due("realm of '" + text + "'", x.realm(), -10 - number);
        CHECK.due("fault of '" + text + "'", x.fault(), place);
        CHECK.due("letters after '" + text + "'", x.told(4), 0);
    }

    /** Promises 3, 4: fault 1. */
    private static void faultsOfWords() {
        fault("x", 1, 0);
        fault("  x", 1, 2);
        fault("t1 0;", 1, 0);
        fault("w0 1;", 1, 0);
        fault("R0 0;", 1, 0);
        fault(";", 1, 0);
        fault("5", 1, 0);
        fault("r", 1, 1);
        fault("r ", 1, 2);
        fault("r;", 1, 1);
        fault("r0", 1, 2);
        fault("r0;", 1, 2);
        fault("r12;", 1, 3);
        fault("r0 0", 1, 4);
        fault("r0 0   ", 1, 7);
        fault("r0 0 0;", 1, 5);
        fault("r0 0 1000;", 1, 5);
        fault("r0,0;", 1, 2);
        fault("r0-1;", 1, 2);
        fault("r-1 0;", 1, 1);
        fault("rr0 0;", 1, 1);
        fault("r0 0r0 0;", 1, 4);
        fault("r0 0 t1 0;", 1, 5);
        fault("r0 0;;", 1, 5);
        fault("r0 0;7", 1, 5);
        fault("r0 0;q", 1, 5);
        fault("r0 0;t", 1, 6);
        fault("r0 0;t1", 1, 7);
        fault("r0 0;t1 0", 1, 9);
        fault("r0 0;t1 0;t1 0;w0", 1, 17);
        fault("r0 0;t1 0;t1 0;w0 1", 1, 19);
        fault("r0 0;t1 0;t1 0;w0;", 1, 17);
        fault("r0 0\t;", 1, 4);
        fault("r0 0;" + (char) 255, 1, 5);
        fault("r0" + (char) 0, 1, 2);
    }

    /** Promises 3, 4: fault 2. */
    private static void faultsOfNumbers() {
        fault("r100 0;", 2, 1);
        fault("r0 100;", 2, 3);
        fault("r100", 2, 1);
        fault("r100x", 2, 1);
        fault("r 100", 2, 2);
        fault("r0000 0;", 2, 1);
        fault("r0 0001;", 2, 3);
        fault("r99999999999999999999 0;", 2, 1);
        fault("r4294967296 0;", 2, 1);
        fault("r0 0;t0 0;", 2, 6);
        fault("r0 0;t13 0;", 2, 6);
        fault("r0 0;t013 0;", 2, 6);
        fault("r0 0;t1 2;", 2, 8);
        fault("r0 0;t12 13;", 2, 9);
        fault("r0 0;t12 0012;", 2, 9);
        fault("r0 0;w0 1;", 2, 6);
        fault("r0 0;t1 0;w1 0;", 2, 11);
        fault("r0 0;t1 0;w0 1;", 2, 13);
        fault("r0 0;t1 0;w0 1x", 2, 13);
        fault("r0 0;t1 0;w0 1;t1 0;", 2, 13);
        fault("r0 0;t1 0;w0 0000;", 2, 13);
        fault("r0 0;t1 0;t1 0;w0 2", 2, 18);
    }

    /** Promises 3, 4: fault 3. */
    private static void faultsOfTooMany() {
        fault("r0 0;r", 3, 5);
        fault("r0 0; r0 0;", 3, 6);
        fault("r0 0;t1 0;r0 0;", 3, 10);
        fault("r0 0;" + NINE + "t", 3, 50);
        fault("r0 0;" + NINE + " t1 0;", 3, 51);
        String fourteen = "w0 1;w0 2;w0 3;w0 4;w0 5;w0 6;w0 7;w0 8;w1 2;w1 3;w1 4;w1 5;w1 6;w1 7;";
        fault("r0 0;" + NINE + fourteen + "w", 3, 120);
        fault("r0 0;" + NINE + fourteen + "w0 0;", 3, 120);
        fault("r0 0;" + NINE + fourteen + "t", 3, 120);
        fault("r0 0;" + NINE + fourteen + "r", 3, 120);
    }

    /** Promises 3, 4: fault 4. */
    private static void faultsOfWays() {
        fault("r0 0;t1 0;w0 0;", 4, 13);
        fault("r0 0;t1 0;w0 00x", 4, 13);
        fault("r0 0;t1 0;t1 0;w0 1;w0 1;", 4, 23);
        fault("r0 0;t1 0;t1 0;w0 1;w1 0;", 4, 23);
        fault("r0 0;t1 0;t1 0;w0 1;w1  000", 4, 24);
        FreePlace after = Check.fed("r0 0;t1 0;w0 0;");
        after.realm();
        Check.feed(after, "r0 0;t1 0;t1 0;w0 1;");
        CHECK.due("what had a fault leaves no ways", after.realm(), 2);
        CHECK.due("one way", after.told(3), 1);
    }

    /** Promise 5. */
    private static void telling() {
        FreePlace x = Check.realmOf("r3 5;t2 2;t2 1;t4 1;w0 1;w1 2;w0 2;");
        x.feed('r');
        x.come(0);
        x.come(0);
        x.come(1);
        x.come(1);
        x.build(0);
        x.shut(0, true);
        x.shut(2, true);
        x.see(1, false);
        x.write(2, 3);
        x.write(2, 3);
        int[] due = {3, 4, 3, 3, 1, 7, 1, 2, 1, 3, 4, 2, 7, 5, 1, 2, 7};
        for (int what = 0; what <= 16; what++) {
            CHECK.due("told(" + what + ")", x.told(what), due[what]);
        }
        CHECK.due("told(-1)", x.told(-1), FreePlace.OUTSIDE);
        CHECK.due("told(17)", x.told(17), FreePlace.OUTSIDE);
        CHECK.due("told(most)", x.told(Integer.MAX_VALUE), FreePlace.OUTSIDE);
        CHECK.due("an inspection changes no FINES", x.told(9), 3);
    }

    /** Promise 6. */
    private static void tables() {
        FreePlace x = Check.realmOf("r0 1;t5 2;t2 2;t4 1;w0 1;w0 2;");
        CHECK.due("SEATS", x.table(0, 0), 5);
        CHECK.due("SIT", x.table(0, 1), 2);
        CHECK.due("FREE", x.table(0, 2), 3);
        CHECK.due("joined", x.table(0, 3), 6);
        CHECK.due("joined from the other end", x.table(2, 3), 1);
        CHECK.due("FREE of a full one", x.table(1, 2), 0);
        x.shut(0, true);
        CHECK.due("joined, a way shut", x.table(0, 3), 4);
        CHECK.due("joined to none", x.table(1, 3), 0);
        x.build(1);
        CHECK.due("SEATS built", x.table(1, 0), 3);
        CHECK.due("FREE built", x.table(1, 2), 1);
        String before = Check.picture(x);
        CHECK.due("table(3, 0)", x.table(3, 0), FreePlace.UNKNOWN);
        CHECK.due("table(-1, 0)", x.table(-1, 0), FreePlace.UNKNOWN);
        CHECK.due("UNKNOWN is ahead of OUTSIDE", x.table(3, 9), FreePlace.UNKNOWN);
        CHECK.due("table(0, 4)", x.table(0, 4), FreePlace.OUTSIDE);
        CHECK.due("table(0, -1)", x.table(0, -1), FreePlace.OUTSIDE);
        CHECK.same("table", x, before);
    }

    /** Promise 7. */
    private static void ways() {
        FreePlace x = Check.realmOf("r0 1;t5 2;t2 2;t4 1;w2 1;w0 2;");
        CHECK.due("A", x.way(0, 0), 2);
        CHECK.due("B", x.way(0, 1), 1);
        CHECK.due("open", x.way(0, 2), 0);
        x.shut(1, true);
        CHECK.due("shut", x.way(1, 2), 1);
        CHECK.due("the other is open", x.way(0, 2), 0);
        CHECK.due("way(2, 0)", x.way(2, 0), FreePlace.UNKNOWN);
        CHECK.due("way(-1, 0)", x.way(-1, 0), FreePlace.UNKNOWN);
        CHECK.due("UNKNOWN is ahead of OUTSIDE", x.way(2, 3), FreePlace.UNKNOWN);
        CHECK.due("way(0, 3)", x.way(0, 3), FreePlace.OUTSIDE);
        CHECK.due("way(0, -1)", x.way(0, -1), FreePlace.OUTSIDE);
    }
}
