/** Objects that have been used, for tests of what is refused; each maker makes its object the same each time. */
final class Lived {
    private Lived() {
    }

    interface Maker {
        FreePlace make();
    }

    /** A row of seats to be broken, built, left and sat at: three tables in a row, two ways, nobody at the last. */
    static FreePlace plain() {
        return Check.realmOf("r7 2;t2 1;t1 1;t4 0;w0 1;w1 2;");
    }

    /** With something of all that an object can hold. */
    static FreePlace rich() {
        FreePlace x = plain();
        Check.feed(x, "r0");
        x.realm();
        x.seed(77);
        x.come(0);
        x.keep(0);
        x.shut(1, true);
        x.come(1);
        x.come(0);
        x.seed(78);
        x.keep(1);
        x.shut(1, false);
        x.come(1);
        x.build(0);
        x.go(2);
        x.seed(79);
        x.see(1, true);
        x.see(2, false);
        x.write(0, 2);
        x.write(2, 9);
        return Check.feed(x, "r5 5;t3 ");
    }

    /** Rich, with nobody at the last table, no WOOD, none FREE at the first. */
    static FreePlace bare() {
        FreePlace x = rich();
        x.go(2);
        x.build(1);
        x.breakOne(0);
        return x;
    }

    /** A table of 20 SEATS and WOOD enough. */
    static FreePlace twentySeats() {
        FreePlace x = Check.realmOf("r0 99;t12 3;t1 0;");
        x.keep(0);
        for (int i = 0; i < 8; i++) {
            x.build(0);
        }
        return x;
    }

    /** Rich, with nothing to undo and one image alone. */
    static FreePlace oneImage() {
        FreePlace x = plain();
        x.seed(5);
        x.come(0);
        x.keep(1);
        x.see(0, false);
        x.write(1, 1);
        return x;
    }

    /** The same, with something to undo. */
    static FreePlace oneImageAndMore() {
        FreePlace x = oneImage();
        x.come(1);
        x.go(0);
        return x;
    }

    /** All that can be is SEEN and written; what is left of twenty can be undone. */
    static FreePlace fullBooks() {
        FreePlace x = rich();
        for (int i = x.told(14); i < 6; i++) {
            x.see(2, false);
        }
        for (int i = x.told(15); i < 15; i++) {
            x.write(1, 1);
        }
        return x;
    }

    /** A text of 240 letters, not yet read. */
    static FreePlace fullText() {
        FreePlace x = plain();
        x.come(0);
        Check.feed(x, "r1 2;t3 1;");
        for (int i = 10; i < 240; i++) {
            x.feed(' ');
        }
        return x;
    }

    /** Used, but without a realm. */
    static FreePlace noRealm() {
        FreePlace x = new FreePlace();
        x.seed(123456789);
        x.keep(1);
        return Check.feed(x, "r1 2;");
    }

    /** A realm without tables. */
    static FreePlace noTables() {
        FreePlace x = Check.realmOf("r1 2;");
        x.seed(6);
        x.drift(2);
        return x;
    }

    /** How many of n draws twice bring a guest, told out here from the document's words. */
    private static int guestsOf(long seed, int n) {
        int guests = 0;
        for (int i = 0; i < n; i++) {
            seed = Check.drawn(Check.drawn(seed));
            guests += seed / 65536 % 3 != 0 ? 1 : 0;
        }
        return guests;
    }

    /** 9000 guests have come, some 300 calls are used, nothing can be undone; both images are kept. */
    static FreePlace guests9000() {
        FreePlace x = Check.realmOf("r9 1;t1 0;t2 0;w0 1;");
        long seed = 0;
        int guests = 0;
        while (guests <= 8940) {
            guests += guestsOf(seed, 60);
            x.drift(60);
            for (int i = 0; i < 120; i++) {
                seed = Check.drawn(seed);
            }
        }
        for (; guests < 9000; guests++) {
            x.come(1);
        }
        x.keep(0);
        x.keep(1);
        return x;
    }

    /** One more has come, which can be undone. */
    static FreePlace guests9001() {
        FreePlace x = guests9000();
        x.come(0);
        return x;
    }
}
