/** Promises 8 to 14: come, go, build, breakOne, shut, drift, undo. */
final class DoneTest {
    private static final Check CHECK = new Check("DoneTest");

    private DoneTest() {
    }

    public static void main(String[] args) {
        comingUpAChain();
        comingWithoutChain();
        comingToTheEnd();
        going();
        building();
        breaking();
        shutting();
        drifting();
        driftRefused();
        undoing();
        undoingAllKinds();
        CHECK.close();
    }

    /** Promise 8: the chain's last table has one more. */
    private static void comingUpAChain() {
        FreePlace x = Check.realmOf("r5 0;t1 1;t2 1;t3 1;t5 1;w0 1;w1 2;w1 3;");
        CHECK.due("come(0)", x.come(0), 2);
        CHECK.due("the first is as it was", x.table(0, 1), 1);
        CHECK.due("the middle is as it was", x.table(1, 1), 1);
        CHECK.due("the lesser end has one more", x.table(2, 1), 2);
        CHECK.due("the greater end has not", x.table(3, 1), 1);
        CHECK.due("come(0) again", x.come(0), 2);
        CHECK.due("now the other end", x.table(3, 1), 2);
        CHECK.due("come(3)", x.come(3), 0);
        CHECK.due("MOVES", x.told(7), 4);
        CHECK.due("GUESTS", x.told(10), 3);
        CHECK.due("CRIMES", x.told(8), 0);
        CHECK.due("all who SIT", x.told(5), 7);
        FreePlace empty = Check.realmOf("r0 0;t1 0;t3 0;w0 1;");
        CHECK.due("one free is not enough to stay", empty.come(0), 1);
        CHECK.due("he sits, one moves up", empty.table(0, 1), 0);
        CHECK.due("at the next", empty.table(1, 1), 1);
    }

    /** Promise 8: a crime, one who stands. */
    private static void comingWithoutChain() {
        FreePlace x = Check.realmOf("r7 0;t2 1;t1 1;w0 1;");
        CHECK.due("no seat, no chain", x.come(1), -3);
        CHECK.due("he stands", x.told(6), 1);
        CHECK.due("nobody more sits", x.told(5), 2);
        CHECK.due("the last seat", x.come(0), -2);
        CHECK.due("he sits", x.table(0, 1), 2);
        CHECK.due("CRIMES", x.told(8), 1);
        CHECK.due("FINES", x.told(9), 7);
        CHECK.due("GUESTS", x.told(10), 2);
        CHECK.due("MOVES", x.told(7), 0);
        CHECK.due("then he stands", x.come(0), -3);
        CHECK.due("two stand", x.told(6), 2);
        CHECK.due("CRIMES as they were", x.told(8), 1);
        String before = Check.picture(x);
        CHECK.due("come(2)", x.come(2), FreePlace.UNKNOWN);
        CHECK.due("come(-1)", x.come(-1), FreePlace.UNKNOWN);
        CHECK.same("come", x, before);
    }

    /** Promise 8: no more guests than 9001, and 60 more by a drift. */
    private static void comingToTheEnd() {
        FreePlace x = Lived.guests9000();
        CHECK.due("9000 guests", x.told(10), 9000);
        CHECK.due("come at 9000", x.come(0) > FreePlace.FULL ? 1 : 0, 1);
        String before = Check.picture(x);
        CHECK.due("come at 9001", x.come(0), FreePlace.FULL);
        CHECK.due("drift at 9001", x.drift(1), FreePlace.FULL);
        CHECK.due("OUTSIDE is ahead of FULL", x.drift(61), FreePlace.OUTSIDE);
        CHECK.due("UNKNOWN is ahead of FULL", x.come(2), FreePlace.UNKNOWN);
        CHECK.same("FULL", x, before);
        x.goBack(0);
        CHECK.due("drift at 9000", x.drift(60) >= 0 ? 1 : 0, 1);
        CHECK.due("it may pass the bound", x.told(10) > 9001 ? 1 : 0, 1);
    }

    /** Promise 9. */
    private static void going() {
        FreePlace x = Check.realmOf("r0 0;t3 2;t1 0;");
        CHECK.due("go(0)", x.go(0), 1);
        CHECK.due("FREE then", x.table(0, 2), 2);
        CHECK.due("go(0) again", x.go(0), 0);
        String before = Check.picture(x);
        CHECK.due("nobody is left", x.go(0), FreePlace.NOT);
        CHECK.due("nobody was there", x.go(1), FreePlace.NOT);
        CHECK.due("go(2)", x.go(2), FreePlace.UNKNOWN);
        CHECK.due("go(-1)", x.go(-1), FreePlace.UNKNOWN);
        CHECK.same("go", x, before);
        CHECK.due("both can be undone", x.told(16), 2);
        FreePlace standing = Check.realmOf("r0 0;t1 1;");
        standing.come(0);
        standing.go(0);
        CHECK.due("who stands goes on standing", standing.told(6), 1);
    }

    /** Promise 10. */
    private static void building() {
        FreePlace x = Check.realmOf("r0 99;t12 12;t1 0;");
        for (int seats = 13; seats <= 20; seats++) {
            CHECK.due("build(0)", x.build(0), seats);
        }
        CHECK.due("WOOD", x.told(1), 91);
        String before = Check.picture(x);
        CHECK.due("20 SEATS", x.build(0), FreePlace.NOT);
        CHECK.due("build(2)", x.build(2), FreePlace.UNKNOWN);
        CHECK.due("build(-1)", x.build(-1), FreePlace.UNKNOWN);
        CHECK.same("build", x, before);
        CHECK.due("who SIT are as they were", x.table(0, 1), 12);
        FreePlace poor = Check.realmOf("r0 1;t1 0;");
        CHECK.due("the last wood", poor.build(0), 2);
        CHECK.due("no wood", poor.build(0), FreePlace.NOT);
        CHECK.due("no wood is less than none", poor.told(1), 0);
    }

    /** Promise 11. */
    private static void breaking() {
        FreePlace x = Check.realmOf("r0 3;t2 1;t1 0;");
        CHECK.due("breakOne(0)", x.breakOne(0), 1);
        CHECK.due("WOOD stays", x.told(1), 3);
        CHECK.due("who SIT are as they were", x.table(0, 1), 1);
        CHECK.due("down to no seat", x.breakOne(1), 0);
        String before = Check.picture(x);
        CHECK.due("none is FREE", x.breakOne(0), FreePlace.NOT);
        CHECK.due("no seat", x.breakOne(1), FreePlace.NOT);
        CHECK.due("breakOne(2)", x.breakOne(2), FreePlace.UNKNOWN);
        CHECK.due("breakOne(-1)", x.breakOne(-1), FreePlace.UNKNOWN);
        CHECK.same("breakOne", x, before);
        CHECK.due("built again", x.build(1), 1);
    }

    /** Promise 12. */
    private static void shutting() {
        FreePlace x = Check.realmOf("r0 0;t1 1;t3 0;w0 1;");
        CHECK.due("opened, was open", x.shut(0, false), 0);
        CHECK.due("shut, was open", x.shut(0, true), 0);
        CHECK.due("no chain by it", x.chain(0, -1), FreePlace.NONE);
        CHECK.due("shut, was shut", x.shut(0, true), 1);
        CHECK.due("opened, was shut", x.shut(0, false), 1);
        CHECK.due("a chain by it", x.chain(0, -1), 1);
        CHECK.due("each can be undone", x.told(16), 4);
        String before = Check.picture(x);
        CHECK.due("shut(1)", x.shut(1, true), FreePlace.UNKNOWN);
        CHECK.due("shut(-1)", x.shut(-1, true), FreePlace.UNKNOWN);
        CHECK.same("shut", x, before);
    }

    /** Promise 13: by draws told out again here. */
    private static void drifting() {
        for (int begin = 0; begin < 40; begin++) {
            String text = "r3 0;t3 1;t2 1;t4 3;w0 1;w1 2;";
            FreePlace drifts = Check.realmOf(text);
            FreePlace led = Check.realmOf(text);
            int seed = begin * 53687091;
            drifts.seed(seed);
            int sitting = drifts.drift(begin + 1);
            for (int i = 0; i <= begin; i++) {
                seed = (int) Check.drawn(seed);
                int t = seed / 65536 % 3;
                seed = (int) Check.drawn(seed);
                if (seed / 65536 % 3 == 0) {
                    led.go(t);
                } else {
                    led.come(t);
                }
            }
            CHECK.due("all who SIT after drift(" + (begin + 1) + ")", sitting, led.told(5));
            for (int what = 5; what <= 12; what++) {
                CHECK.due("told(" + what + ") after a drift", drifts.told(what), led.told(what));
            }
            for (int t = 0; t < 3; t++) {
                CHECK.due("who SIT at " + t, drifts.table(t, 1), led.table(t, 1));
            }
            CHECK.due("one drift is undone at once", drifts.told(16), 1);
            CHECK.due("the seed goes on", drifts.seed(0), seed);
        }
    }

    /** Promise 13: refusals. */
    private static void driftRefused() {
        FreePlace x = Check.realmOf("r3 0;t3 1;");
        x.seed(9);
        String before = Check.picture(x);
        CHECK.due("drift(0)", x.drift(0), FreePlace.OUTSIDE);
        CHECK.due("drift(61)", x.drift(61), FreePlace.OUTSIDE);
        CHECK.due("drift(-5)", x.drift(-5), FreePlace.OUTSIDE);
        CHECK.same("drift", x, before);
        CHECK.due("nothing drawn", x.seed(9), 9);
        FreePlace none = new FreePlace();
        none.seed(4);
        CHECK.due("no realm", none.drift(60), FreePlace.NOT);
        CHECK.due("OUTSIDE is ahead of NOT", none.drift(61), FreePlace.OUTSIDE);
        CHECK.due("nothing drawn without a realm", none.seed(0), 4);
    }

    /** Promise 14: at most 20 are kept. */
    private static void undoing() {
        FreePlace x = Check.realmOf("r0 99;t3 2;t12 0;");
        CHECK.due("none", x.undo(), FreePlace.NOT);
        for (int i = 1; i <= 25; i++) {
            if (i % 2 == 0) {
                x.breakOne(1);
            } else {
                x.build(1);
            }
            CHECK.due("how many can be undone", x.told(16), Math.min(20, i));
        }
        x.come(5);
        CHECK.due("what is refused is not kept", x.told(16), 20);
        int seats = x.table(1, 0);
        CHECK.due("seats", seats, 13);
        for (int left = 19; left >= 0; left--) {
            CHECK.due("undo", x.undo(), left);
            seats = 25 - seats;
            CHECK.due("seats undone", x.table(1, 0), seats);
        }
        CHECK.due("the oldest are lost", x.undo(), FreePlace.NOT);
        CHECK.due("as ahead of the sixth", x.table(1, 0), 13);
        CHECK.due("WOOD", x.told(1), 96);
        x.build(1);
        CHECK.due("it goes on", x.told(16), 1);
        CHECK.due("undo", x.undo(), 0);
    }

    /** Promise 14: all of section 2 is undone, the seed and what is seen stay. */
    private static void undoingAllKinds() {
        FreePlace x = Check.realmOf("r4 3;t2 1;t1 1;t3 1;w0 1;w1 2;");
        x.seed(12);
        String[] pictures = new String[9];
        int step = 0;
        pictures[step++] = state(x);
        x.come(0);
        pictures[step++] = state(x);
        x.come(0);
        pictures[step++] = state(x);
        x.come(1);
        pictures[step++] = state(x);
        x.go(2);
        pictures[step++] = state(x);
        x.build(1);
        pictures[step++] = state(x);
        x.breakOne(2);
        pictures[step++] = state(x);
        x.shut(1, true);
        pictures[step++] = state(x);
        x.drift(20);
        int seed = x.seed(0);
        x.seed(seed);
        x.see(1, true);
        x.write(1, 1);
        for (int back = step - 1; back >= 0; back--) {
            CHECK.due("undo", x.undo(), back);
            CHECK.due("as it was: " + pictures[back] + " is " + state(x), pictures[back].equals(state(x)) ? 1 : 0, 1);
        }
        CHECK.due("the seed stays", x.seed(0), seed);
        CHECK.due("what is SEEN stays", x.told(14), 1);
        CHECK.due("the book stays", x.told(15), 1);
    }

    private static String state(FreePlace x) {
        StringBuilder all = new StringBuilder();
        all.append(x.told(1)).append(' ').append(x.told(13));
        for (int what = 5; what <= 10; what++) {
            all.append(' ').append(x.told(what));
        }
        for (int t = 0; t < x.told(2); t++) {
            all.append('|').append(x.table(t, 0)).append(' ').append(x.table(t, 1));
        }
        return all.toString();
    }
}
