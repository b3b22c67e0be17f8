/** Runs of drawn calls, the class's answers held against those of Model. */
final class ModelTest {
    private static final Check CHECK = new Check("ModelTest");
    private static final int RUNS = 1000;
    /** An object is used for at most 512 calls. */
    private static final int CALLS = 512;
    private static final int LAST_LOOK = 17 + 9 * 4 + 14 * 3 + 1;
    private static final int TEXTS = 20000;

    private long state;
    private int calls;

    private ModelTest(long begin) {
        state = begin * 0x9E3779B97F4A7C15L + 1;
    }

    public static void main(String[] args) {
        for (int run = 1; run <= RUNS; run++) {
            new ModelTest(run).run(run);
        }
        for (int run = 1; run <= TEXTS; run++) {
            new ModelTest(-run).text(run);
        }
        CHECK.close();
    }

    private int below(int n) {
        state ^= state << 13;
        state ^= state >>> 7;
        state ^= state << 17;
        return (int) ((state >>> 1) % n);
    }

    private int from(int least, int most) {
        return least + below(most - least + 1);
    }

    /** Mostly 0 .. most, now and then outside, or far outside. */
    private int about(int most) {
        int kind = below(24);
        if (kind == 0) {
            return from(-2, -1);
        }
        if (kind == 1) {
            return most + from(1, 2);
        }
        if (kind == 2) {
            int[] far = {Integer.MIN_VALUE, Integer.MAX_VALUE, 1 << 30, -1000000001, 32, 64, 31};
            return far[below(far.length)];
        }
        return from(0, Math.max(0, most));
    }

    private String goodText() {
        StringBuilder text = new StringBuilder("r" + below(100) + " " + below(100) + ";");
        int tables = below(12) == 0 ? below(3) : from(2, 9);
        int tight = below(4);
        for (int t = 0; t < tables; t++) {
            int seats = tight == 0 ? from(1, 12) : from(1, 4);
            int free = tight == 3 ? below(2) : Math.min(seats, below(6) == 0 ? from(2, 3) : below(2));
            text.append('t').append(seats).append(' ').append(seats - free).append(';');
        }
        boolean[][] has = new boolean[9][9];
        int ways = tables < 2 ? 0 : below(8) == 0 ? 0 : from(tables - 1, 14);
        int made = 0;
        for (int i = 0; i < ways * 2 && made < ways && made < 14; i++) {
            int a = i < tables - 1 && below(5) > 0 ? i + 1 : below(tables);
            int b = i < tables - 1 ? below(Math.max(1, Math.min(a, tables))) : below(tables);
            if (a != b && !has[a][b]) {
                has[a][b] = true;
                has[b][a] = true;
                text.append('w').append(a).append(' ').append(b).append(';');
                made++;
            }
        }
        return text.toString();
    }

    private String spoilt(String text) {
        StringBuilder t = new StringBuilder(text);
        String letters = "rtw;;  0123456789x" + (char) 0 + (char) 200;
        for (int times = from(1, 3); times > 0; times--) {
            int at = below(t.length() + 1);
            int kind = below(4);
            if (kind == 0 && at < t.length()) {
                t.deleteCharAt(at);
            } else if (kind == 1 && at < t.length()) {
                t.setCharAt(at, letters.charAt(below(letters.length())));
            } else if (kind == 2) {
                t.setLength(at);
            } else {
                t.insert(at, letters.charAt(below(letters.length())));
            }
        }
        return t.toString();
    }

    private void feedBoth(FreePlace x, Model m, String text) {
        calls += text.length();
        for (int i = 0; i < text.length(); i++) {
            CHECK.due("feed", x.feed(text.charAt(i)), m.feed(text.charAt(i)));
        }
    }

    private void text(int run) {
        FreePlace x = new FreePlace();
        Model m = new Model();
        String text = spoilt(goodText());
        feedBoth(x, m, text);
        CHECK.due("text " + run + " '" + text + "'", x.realm(), m.realm());
        CHECK.due("fault of text " + run + " '" + text + "'", x.fault(), m.fault());
        alike(x, m, "text " + run);
    }

    private void run(int run) {
        FreePlace x = new FreePlace();
        Model m = new Model();
        String text = goodText();
        if (below(30) > 0) {
            feedBoth(x, m, text);
            CHECK.due("realm " + text, x.realm(), m.realm());
            calls++;
        }
        String told = "run " + run + " " + text;
        while (calls < CALLS - LAST_LOOK) {
            calls++;
            step(x, m, told + " call " + calls);
        }
        alike(x, m, told);
        CHECK.due(told + " seed", x.seed(0), m.seed(0));
    }

    private static void alike(FreePlace x, Model m, String told) {
        for (int what = 0; what <= 16; what++) {
            CHECK.due(told + " told(" + what + ")", x.told(what), m.told(what));
        }
        for (int t = 0; t < m.told(2); t++) {
            for (int what = 0; what <= 3; what++) {
                CHECK.due(told + " table(" + t + ", " + what + ")", x.table(t, what), m.table(t, what));
            }
        }
        for (int w = 0; w < m.told(3); w++) {
            for (int what = 0; what <= 2; what++) {
                CHECK.due(told + " way(" + w + ", " + what + ")", x.way(w, what), m.way(w, what));
            }
        }
    }

    private void step(FreePlace x, Model m, String told) {
        int kind = below(100);
        if (kind < 45) {
            act(x, m, told, kind);
        } else if (kind < 80) {
            attempt(x, m, told);
        } else {
            sight(x, m, told);
        }
    }

    private void act(FreePlace x, Model m, String told, int kind) {
        int t = about(m.told(2) - 1);
        if (kind < 12) {
            CHECK.due(told + " come(" + t + ")", x.come(t), m.come(t));
        } else if (kind < 20) {
            CHECK.due(told + " go(" + t + ")", x.go(t), m.go(t));
        } else if (kind < 25) {
            CHECK.due(told + " build(" + t + ")", x.build(t), m.build(t));
        } else if (kind < 31) {
            CHECK.due(told + " breakOne(" + t + ")", x.breakOne(t), m.breakOne(t));
        } else if (kind < 37) {
            int w = about(m.told(3) - 1);
            boolean is = below(2) == 0;
            CHECK.due(told + " shut(" + w + ", " + is + ")", x.shut(w, is), m.shut(w, is));
        } else if (kind == 37) {
            int n = below(4) == 0 ? about(60) : from(1, 4);
            CHECK.due(told + " drift(" + n + ")", x.drift(n), m.drift(n));
        } else if (kind < 42) {
            CHECK.due(told + " undo()", x.undo(), m.undo());
        } else if (kind == 42) {
            int i = about(1);
            CHECK.due(told + " keep(" + i + ")", x.keep(i), m.keep(i));
        } else if (kind == 43) {
            int i = about(1);
            CHECK.due(told + " goBack(" + i + ")", x.goBack(i), m.goBack(i));
        } else {
            seldom(x, m, told);
        }
    }

    private void seldom(FreePlace x, Model m, String told) {
        if (below(3) == 0) {
            int v = below(3) == 0 ? about(5) : below(Integer.MAX_VALUE);
            CHECK.due(told + " seed(" + v + ")", x.seed(v), m.seed(v));
        } else if (below(12) == 0) {
            String text = below(2) == 0 ? spoilt(goodText()) : below(4) == 0 ? "  " : goodText();
            if (calls + text.length() + 1 <= CALLS - LAST_LOOK) {
                feedBoth(x, m, text);
                calls++;
                CHECK.due(told + " realm() of " + text, x.realm(), m.realm());
                CHECK.due(told + " fault()", x.fault(), m.fault());
            }
        } else if (below(8) == 0) {
            int letter = below(2) == 0 ? ' ' : about(255);
            CHECK.due(told + " feed(" + letter + ")", x.feed(letter), m.feed(letter));
        }
    }

    private void attempt(FreePlace x, Model m, String told) {
        int most = m.told(2) - 1;
        int t = about(most);
        int what = about(1);
        switch (below(9)) {
            case 0: {
                int i = below(4) == 0 ? about(9) : from(-1, 4);
                CHECK.due(told + " chain(" + t + ", " + i + ")", x.chain(t, i), m.chain(t, i));
                break;
            }
            case 1: CHECK.due(told + " more(" + t + ")", x.more(t), m.more(t)); break;
            case 2: CHECK.due(told + " far(" + what + ")", x.far(what), m.far(what)); break;
            case 3: case 4: {
                int u = about(most);
                CHECK.due(told + " two(" + t + ", " + u + ", " + what + ")", x.two(t, u, what), m.two(t, u, what));
                break;
            }
            case 5: case 6: {
                int set = below(10) == 0 ? about(1 << most + 1) : below(1 << most + 1);
                int steps = below(5) == 0 ? about(8) : from(0, 3);
                int at = below(2) == 0 ? -1 : t;
                CHECK.due(told + " chairs(" + set + ", " + steps + ", " + at + ")", x.chairs(set, steps, at), m.chairs(set, steps, at));
                break;
            }
            case 7: CHECK.due(told + " spread(" + t + ")", x.spread(t), m.spread(t)); break;
            default: {
                int n = about(60);
                int q = about(100);
                CHECK.due(told + " quiet(" + n + ", " + q + ")", x.quiet(n, q), m.quiet(n, q));
                break;
            }
        }
    }

    private void sight(FreePlace x, Model m, String told) {
        int t = about(m.told(2) - 1);
        switch (below(14)) {
            case 0: case 1: {
                boolean moved = below(2) == 0;
                CHECK.due(told + " see(" + t + ", " + moved + ")", x.see(t, moved), m.see(t, moved));
                break;
            }
            case 2: case 3: CHECK.due(told + " came()", x.came(), m.came()); break;
            case 4: case 5: CHECK.due(told + " look()", x.look(), m.look()); break;
            case 6: case 7: {
                int sit = below(3) > 0 && t >= 0 && t < m.told(2) ? m.table(t, 1) : about(20);
                CHECK.due(told + " write(" + t + ", " + sit + ")", x.write(t, sit), m.write(t, sit));
                break;
            }
            case 8: case 9: CHECK.due(told + " judge()", x.judge(), m.judge()); break;
            case 10: {
                if (below(3) == 0) {
                    CHECK.due(told + " tear()", x.tear(), m.tear());
                }
                break;
            }
            case 11: {
                int what = about(16);
                CHECK.due(told + " told(" + what + ")", x.told(what), m.told(what));
                break;
            }
            case 12: {
                int what = about(3);
                CHECK.due(told + " table(" + t + ", " + what + ")", x.table(t, what), m.table(t, what));
                break;
            }
            default: {
                int w = about(m.told(3) - 1);
                int what = about(2);
                CHECK.due(told + " way(" + w + ", " + what + ")", x.way(w, what), m.way(w, what));
                break;
            }
        }
    }
}
