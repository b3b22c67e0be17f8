/** Counts answers that are due and others; each test's main ends with its close(). */
final class Check {
    private final String name;
    private int passed = 0;
    private int failed = 0;

    Check(String name) {
        this.name = name;
    }

    void due(String call, long got, long want) {
        if (got == want) {
            passed++;
            return;
        }
        failed++;
        if (failed <= 40) {
            System.out.println(name + ": " + call + " answered " + got + ", due is " + want);
        }
    }

    /** A new object with a text fed; the text is not yet the realm. */
    static FreePlace fed(String text) {
        return feed(new FreePlace(), text);
    }

    static FreePlace feed(FreePlace place, String text) {
        for (int i = 0; i < text.length(); i++) {
            place.feed(text.charAt(i));
        }
        return place;
    }

    /** A new object with a text made the realm. */
    static FreePlace realmOf(String text) {
        FreePlace place = fed(text);
        int tables = place.realm();
        if (tables < 0) {
            throw new IllegalStateException("the test's text has a fault: " + text + " (" + tables + ")");
        }
        return place;
    }

    /** That what was refused changed nothing that can be told. */
    void same(String call, FreePlace place, String before) {
        String now = picture(place);
        due(call + " changes nothing: " + before + " became " + now, before.equals(now) ? 1 : 0, 1);
    }

    /** All that can be told of an object without changing it (the seed can't: seed() tells it by changing it). */
    static String picture(FreePlace place) {
        StringBuilder all = new StringBuilder();
        for (int what = 0; what <= 16; what++) {
            all.append(place.told(what)).append(' ');
        }
        int tables = place.told(2);
        for (int t = 0; t < tables; t++) {
            all.append('|');
            for (int what = 0; what <= 3; what++) {
                all.append(place.table(t, what)).append(' ');
            }
        }
        int ways = place.told(3);
        for (int w = 0; w < ways; w++) {
            all.append('/');
            for (int what = 0; what <= 2; what++) {
                all.append(place.way(w, what)).append(' ');
            }
        }
        all.append('=').append(place.fault()).append(' ').append(place.came()).append(' ').append(place.judge());
        return all.toString();
    }

    /** The state and the books in short: what acts, undo and images change. */
    static String state(FreePlace place) {
        StringBuilder all = new StringBuilder();
        all.append(place.told(1)).append(' ').append(place.told(13));
        for (int what = 6; what <= 10; what++) {
            all.append(' ').append(place.told(what));
        }
        int tables = place.told(2);
        for (int t = 0; t < tables; t++) {
            all.append('|').append(place.table(t, 0)).append(' ').append(place.table(t, 1));
        }
        return all.toString();
    }

    /** THE SEED behind a seed, by the document's words. */
    static long drawn(long seed) {
        return (seed * 1103515245L + 12345L) % 2147483648L;
    }

    void close() {
        System.out.println(name + ": " + passed + " passed, " + failed + " failed");
        if (failed != 0 || passed == 0) {
            System.exit(1);
        }
    }
}
