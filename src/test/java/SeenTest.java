/** Promises 22 to 30: see, came, look, write, tear, judge, seed, keep, goBack. */
final class SeenTest {
    private static final Check CHECK = new Check("SeenTest");
    private static final int NONE = FreePlace.NONE;
    /** Chains: 0 1 2 5; 1 2 5; 2 5; 3 2 5; 4 none; 5. */
    private static final String TREE = "r2 3;t1 1;t1 1;t1 1;t1 1;t1 1;t4 0;w0 1;w1 2;w2 5;w3 2;";

    private SeenTest() {
    }

    public static void main(String[] args) {
        seeing();
        came();
        look();
        lookAtNone();
        writing();
        tearing();
        judging();
        seeding();
        keeping();
        goingBack();
        CHECK.close();
    }

    /** Promise 22. */
    private static void seeing() {
        FreePlace x = Check.realmOf(TREE);
        for (int i = 1; i <= 6; i++) {
            CHECK.due("see", x.see(i % 2, i < 4), i);
        }
        String before = Check.picture(x);
        CHECK.due("a seventh", x.see(0, true), FreePlace.FULL);
        CHECK.due("UNKNOWN is ahead of FULL", x.see(6, true), FreePlace.UNKNOWN);
        CHECK.due("see(-1)", x.see(-1, false), FreePlace.UNKNOWN);
        CHECK.same("see", x, before);
        CHECK.due("it can't be undone", x.undo(), FreePlace.NOT);
        CHECK.due("without a realm", new FreePlace().see(0, true), FreePlace.UNKNOWN);
    }

    /** Promise 23. */
    private static void came() {
        FreePlace x = Check.realmOf(TREE);
        CHECK.due("all with a chain", x.came(), 47);
        x.see(2, true);
        CHECK.due("by 2", x.came(), 15);
        x.see(1, false);
        CHECK.due("by 2, not by 1", x.came(), 12);
        x.see(3, false);
        CHECK.due("by 2, not by 1, 3", x.came(), 4);
        x.see(2, false);
        CHECK.due("no chain is so", x.came(), 0);
        x.tear();
        x.see(5, true);
        CHECK.due("nobody moves from the last", x.came(), 0);
        x.tear();
        x.see(2, false);
        CHECK.due("not by 2", x.came(), 32);
        x.shut(2, true);
        CHECK.due("as chains are now", x.came(), 32);
        x.shut(2, false);
        x.see(4, false);
        CHECK.due("a table without a chain tells nothing", x.came(), 32);
        x.tear();
        x.see(1, true);
        CHECK.due("by 1", x.came(), 3);
        x.build(1);
        x.build(1);
        CHECK.due("1 is a chain's last now", x.came(), 0);
        FreePlace none = new FreePlace();
        CHECK.due("without a realm", none.came(), 0);
    }

    /** Promise 24. */
    private static void look() {
        FreePlace x = Check.realmOf(TREE);
        // Of 0 1 2 3 5: 0 parts 1 and 4, 1 parts 2 and 3, 2 parts 4 and 1, 3 parts 1 and 4.
        CHECK.due("the best", x.look(), 1);
        x.see(1, true);
        CHECK.due("0 and 1 are left", x.look(), 0);
        x.see(0, true);
        CHECK.due("one is left", x.look(), NONE);
        x.tear();
        x.see(1, false);
        // 2, 3, 5 are left: 2 parts them 2 and 1, 3 parts them 1 and 2.
        CHECK.due("of like ones the least", x.look(), 2);
        x.see(0, true);
        CHECK.due("none is left", x.look(), NONE);
    }

    /** Promise 24: none parts them. */
    private static void lookAtNone() {
        FreePlace open = Check.realmOf("r0 0;t3 0;t3 0;t3 0;w0 1;");
        CHECK.due("all stay", open.look(), NONE);
        CHECK.due("without a realm", new FreePlace().look(), NONE);
        CHECK.due("without tables", Check.realmOf("r0 0;").look(), NONE);
        CHECK.due("one table", Check.realmOf("r0 0;t3 0;").look(), NONE);
        CHECK.due("no chain", Check.realmOf("r0 0;t1 0;t1 0;w0 1;").look(), NONE);
        CHECK.due("two", Check.realmOf("r0 0;t3 0;t1 0;w0 1;").look(), 1);
    }

    /** Promise 25. */
    private static void writing() {
        FreePlace x = Check.realmOf(TREE);
        CHECK.due("write(0, 21)", x.write(0, 21), FreePlace.OUTSIDE);
        CHECK.due("write(0, -1)", x.write(0, -1), FreePlace.OUTSIDE);
        CHECK.due("write(6, 0)", x.write(6, 0), FreePlace.UNKNOWN);
        CHECK.due("write(-1, 99)", x.write(-1, 99), FreePlace.UNKNOWN);
        CHECK.due("nothing is written", x.told(15), 0);
        for (int i = 1; i <= 15; i++) {
            CHECK.due("write", x.write(i % 6, i % 2 == 0 ? 20 : 0), i);
        }
        String before = Check.picture(x);
        CHECK.due("a sixteenth", x.write(0, 0), FreePlace.FULL);
        CHECK.due("OUTSIDE is ahead of FULL", x.write(0, 21), FreePlace.OUTSIDE);
        CHECK.due("UNKNOWN is ahead of FULL", x.write(6, 0), FreePlace.UNKNOWN);
        CHECK.same("write", x, before);
        CHECK.due("entries", x.told(15), 15);
    }

    /** Promise 26. */
    private static void tearing() {
        FreePlace x = Check.realmOf(TREE);
        CHECK.due("nothing", x.tear(), 0);
        x.see(0, true);
        x.see(1, false);
        x.write(0, 0);
        x.write(0, 0);
        x.write(0, 0);
        CHECK.due("both", x.tear(), 5);
        CHECK.due("nothing SEEN", x.told(14), 0);
        CHECK.due("no BOOK", x.told(15), 0);
        CHECK.due("came anew", x.came(), 47);
        CHECK.due("judge anew", x.judge(), NONE);
        CHECK.due("see anew", x.see(1, true), 1);
        CHECK.due("write anew", x.write(0, 1), 1);
    }

    /** Promise 27. */
    private static void judging() {
        FreePlace x = Check.realmOf("r0 0;t5 2;t5 3;");
        CHECK.due("an empty book", x.judge(), NONE);
        x.write(1, 3);
        x.write(0, 2);
        CHECK.due("all is so", x.judge(), NONE);
        x.write(1, 4);
        x.write(0, 5);
        CHECK.due("the first that is otherwise", x.judge(), 2);
        x.come(1);
        CHECK.due("otherwise now", x.judge(), 0);
        x.undo();
        CHECK.due("as it was", x.judge(), 2);
        FreePlace both = Check.realmOf("r0 0;t5 2;");
        both.write(0, 2);
        both.write(0, 3);
        CHECK.due("a table told twice", both.judge(), 1);
    }

    /** Promise 28. */
    private static void seeding() {
        FreePlace x = new FreePlace();
        CHECK.due("0 at first", x.seed(5), 0);
        CHECK.due("what it was", x.seed(2147483647), 5);
        CHECK.due("seed(-1)", x.seed(-1), FreePlace.OUTSIDE);
        CHECK.due("seed(least)", x.seed(Integer.MIN_VALUE), FreePlace.OUTSIDE);
        CHECK.due("the greatest", x.seed(0), 2147483647);
        FreePlace one = Check.realmOf("r0 0;t12 5;");
        one.drift(1);
        CHECK.due("two draws from 0", one.seed(2147483647), seedAfterTwo(0));
        one.drift(1);
        CHECK.due("two draws from the greatest", one.seed(0), seedAfterTwo(2147483647));
    }

    private static int seedAfterTwo(long seed) {
        long one = (seed * 1103515245L + 12345L) % 2147483648L;
        return (int) ((one * 1103515245L + 12345L) % 2147483648L);
    }

    /** Promise 29. */
    private static void keeping() {
        FreePlace x = Check.realmOf(TREE);
        x.come(0);
        CHECK.due("keep(2)", x.keep(2), FreePlace.UNKNOWN);
        CHECK.due("keep(-1)", x.keep(-1), FreePlace.UNKNOWN);
        CHECK.due("what was refused leaves undo", x.told(16), 1);
        CHECK.due("keep(0)", x.keep(0), 1);
        CHECK.due("nothing can be undone", x.told(16), 0);
        CHECK.due("undo", x.undo(), FreePlace.NOT);
        CHECK.due("the other was not kept", x.goBack(1), FreePlace.NOT);
        x.come(0);
        CHECK.due("keep(0) anew", x.keep(0), 1);
        x.go(5);
        x.goBack(0);
        CHECK.due("the later one", x.table(5, 1), 2);
        FreePlace none = new FreePlace();
        none.seed(3);
        CHECK.due("keep without a realm", none.keep(1), 1);
        none.seed(4);
        CHECK.due("goBack without a realm", none.goBack(1), 1);
        CHECK.due("its seed", none.seed(0), 3);
        CHECK.due("still no realm", none.drift(1), FreePlace.NOT);
    }

    /** Promise 30. */
    private static void goingBack() {
        FreePlace x = Check.realmOf(TREE);
        CHECK.due("not kept", x.goBack(0), FreePlace.NOT);
        CHECK.due("goBack(2)", x.goBack(2), FreePlace.UNKNOWN);
        CHECK.due("goBack(-1)", x.goBack(-1), FreePlace.UNKNOWN);
        x.seed(100);
        x.come(4);
        x.come(0);
        x.build(5);
        x.shut(3, true);
        String kept = Check.picture(x);
        x.keep(1);
        x.drift(60);
        x.shut(3, false);
        x.breakOne(5);
        x.keep(0);
        x.drift(7);
        String later = Check.picture(x);
        CHECK.due("goBack(1)", x.goBack(1), 1);
        CHECK.due("nothing can be undone", x.undo(), FreePlace.NOT);
        CHECK.due("the seed goes back", x.seed(100), 100);
        CHECK.due("all but what could be undone", withoutUndo(kept).equals(withoutUndo(Check.picture(x))) ? 1 : 0, 1);
        CHECK.due("goBack(0)", x.goBack(0), 1);
        x.drift(7);
        CHECK.due("it goes on the same", later.equals(Check.picture(x)) ? 1 : 0, 1);
        CHECK.due("as often as one likes", x.goBack(1), 1);
        x.come(0);
        x.see(2, true);
        x.write(0, 1);
        CHECK.due("what can be undone is refused away", x.goBack(3), FreePlace.UNKNOWN);
        CHECK.due("it still can be", x.told(16), 1);
        x.goBack(0);
        CHECK.due("what is SEEN stays", x.told(14), 1);
        CHECK.due("the BOOK stays", x.told(15), 1);
        CHECK.due("it can be undone no more", x.told(16), 0);
    }

    /** The seventeenth number told is how many can be undone. */
    private static String withoutUndo(String picture) {
        String[] parts = picture.split("\\|", 2);
        return parts[0].substring(0, parts[0].trim().lastIndexOf(' ')) + parts[1];
    }
}
