import java.util.Arrays;
import java.util.function.ToLongFunction;

/**
 * Every call with every row of numbers out of some that stand at, just below and just above the
 * bounds of the document, in some states: the program and the model answer alike, and so do the
 * statuses behind each call.
 */
public final class SweepTest {
    private static final int MIN = Checks.MIN;
    private static final int MAX = Checks.MAX;
    // New objects come often enough for 512 calls each.
    private static final int CALLS = 180;
    private static final String LAW = "law own own both own most parts stays 50;";
    private static final String SHORT = "law own own own own most parts all 1;";
    private static final String[] STATES = {
        "",
        LAW,
        LAW + "law both both both both both worth all 30;come 0 brought 0 60;come 1 brought 1 30;"
            + "come 9 earned 0 20;buy 20 10 30 5;put 30 0 1 20;put 40 1 0 15;put 50 0 2 10;"
            + "now 70 0 99;owes 80 2 9;agree 90 0 1;land 998 1;put 999 1 2 5;",
        SHORT + "buy 0 99 98 98;".repeat(4) + "buy 0 98 99 98;".repeat(3) + "buy 9 98 98 99;".repeat(3)
            + "put 9 9 1 99;put 9 0 2 99;put 9 5 0 99;".repeat(6) + "now 999 9 0;land 999 0;",
        SHORT + "buy 0 99 0 0;buy 0 0 99 0;buy 0 0 0 99;" + "put 0 0 1 99;put 0 1 2 99;put 0 2 0 99;"
            .repeat(7) + "owes 1 0 99;".repeat(6),
        "law own own both own most more all 99;law own own both own both less all 3;"
            + "come 0 given 0 99;put 0 0 2 9;put 0 0 2 10;now 1 0 0;put 1 0 1 7;land 2 1;owes 2 2 99;"
            + "agree 3 1 2;land 4 0;",
    };

    private static final Checks c = new Checks();
    private static WhatWasHers x;
    private static Model m;
    private static String state;
    private static int left;

    public static void main(String[] args) {
        for (String s : STATES) {
            state = s;
            renew();
            rows();
            lives();
            owed();
            beside();
            asked();
            whole();
        }
        c.end();
    }

    private static void renew() {
        x = new WhatWasHers();
        m = new Model();
        left = CALLS;
        int[] sizes = {0, 1, 40, 10, 11, 9};
        for (int row = 0; row < sizes.length; row++) {
            x.row(row, row % 3, sizes[row]);
            m.row(row, row % 3, sizes[row]);
        }
        if (!state.isEmpty()) {
            Checks.live(x, state);
            for (int i = 0; i < state.length(); i++) {
                m.feed(state.charAt(i), 1);
            }
            m.life();
        }
    }

    private static void compare(String call, long got, ToLongFunction<Model> due) {
        c.due(call + " of " + state, got, answer(due));
        c.due("status behind " + call + " of " + state, x.status(), m.status());
        left--;
        if (left == 0) {
            renew();
        }
    }

    private static long answer(ToLongFunction<Model> due) {
        try {
            return due.applyAsLong(m);
        } catch (Model.Refused r) {
            return r.answer;
        }
    }

    private static String name(String call, int... numbers) {
        return call + Arrays.toString(numbers);
    }

    private static void rows() {
        int[] some = {MIN, -1, 0, 1, 2, 3, 7, 8, 9, 39, 40, 41, 128, 256, 32768, MAX};
        for (int a : some) {
            compare(name("drop", a), x.drop(a), m -> m.drop(a));
            for (int b : some) {
                compare(name("judge", a, b), x.judge(a, b), m -> m.judge(a, b));
                for (int d : some) {
                    compare(name("row", a, b, d), x.row(a, b, d), m -> m.row(a, b, d));
                    compare(name("set", a, b, d), x.set(a, b, d), m -> m.set(a, b, d));
                }
            }
        }
        copies();
    }

    private static void copies() {
        int[] rows = {-1, 0, 1, 2, 3, 4, 5, 7, 8};
        int[] numbers = {MIN, -1, 0, 1, 10, 40, 41, MAX};
        for (int a : rows) {
            for (int b : rows) {
                for (int i : numbers) {
                    for (int j : numbers) {
                        for (int n : numbers) {
                            compare(name("copy", a, i, b, j, n), x.copy(a, i, b, j, n),
                                m -> m.copy(a, i, b, j, n));
                        }
                    }
                }
            }
        }
    }

    private static void lives() {
        int[] things = {MIN, -1, 0, 1, 2, 3, 4, 8, 9, 10, 11, MAX};
        int[] days = {MIN, -1, 0, 1, 2, 8, 9, 10, 19, 20, 21, 997, 998, 999, 1000, MAX};
        for (int t : things) {
            for (int day : days) {
                compare(name("whose", t, day), x.whose(t, day), m -> m.whose(t, day));
            }
            for (int what : new int[] {MIN, -1, 0, 1, 2, 3, 4, 5, 6, 7, MAX}) {
                compare(name("thing", t, what), x.thing(t, what), m -> m.thing(t, what));
            }
        }
        for (int n : new int[] {MIN, -1, 0, 1, 2, 7, 8, 9, MAX}) {
            for (long w : new long[] {Long.MIN_VALUE, -1, 0, 0x3b, Long.MAX_VALUE}) {
                compare(name("feed of " + w, n), x.feed(w, n), m -> m.feed(w, n));
            }
        }
        compare("life()", x.life(), m -> m.life());
        compare("fault()", x.fault(), m -> m.fault());
    }

    private static void owed() {
        int[] some = {MIN, -1, 0, 1, 2, 3, 4, MAX};
        for (int p : some) {
            for (int q : some) {
                compare(name("purse", p, q), x.purse(p, q), m -> m.purse(p, q));
                compare(name("fed", p, q), x.fed(p, q), m -> m.fed(p, q));
                compare(name("net", p, q), x.net(p, q), m -> m.net(p, q));
                compare(name("end", p, q), x.end(p, q), m -> m.end(p, q));
                for (int what : some) {
                    compare(name("owed", p, q, what), x.owed(p, q, what), m -> m.owed(p, q, what));
                }
            }
        }
    }

    private static void beside() {
        for (int law : new int[] {MIN, -1, 0, 1, 2, MAX}) {
            for (int day : new int[] {MIN, -1, 0, 1, 9, 10, 20, 21, 90, 998, 999, 1000, MAX}) {
                for (int what : new int[] {MIN, -1, 0, 1, 2, MAX}) {
                    compare(name("beside", law, day, what), x.beside(law, day, what),
                        m -> m.beside(law, day, what));
                }
            }
        }
        compare("hangs()", x.hangs(), m -> m.hangs());
        int[] wishes = {MIN, -10000, -9999, -100, -1, 0, 1, 10, 100, 1000, 9999, 10000, MAX};
        for (int hers : wishes) {
            for (int his : wishes) {
                compare(name("beforehand", hers, his), x.beforehand(hers, his),
                    m -> m.beforehand(hers, his));
            }
        }
    }

    private static void asked() {
        int[] some = {MIN, -1, 0, 1, 2, 3, 4, 5, 6, 9, 10, MAX};
        for (int t : some) {
            compare(name("kind", t), x.kind(t), m -> m.kind(t));
            compare(name("count", t), x.count(t), m -> m.count(t));
            for (int k : some) {
                compare(name("as", t, k), x.as(t, k), m -> m.as(t, k));
                compare(name("ask", t, k), x.ask(t, k), m -> m.ask(t, k));
                for (int i : new int[] {MIN, -1, 0, 1, 6, 7, 15, 16, MAX}) {
                    compare(name("trace", i), x.trace(i), m -> m.trace(i));
                }
            }
        }
    }

    /** With an object of its own: wishes just at, below and above each end there could be. */
    private static void whole() {
        if (state.isEmpty()) {
            return;
        }
        renew();
        long hers = Math.floorDiv(x.end(0, 0), x.end(0, 1));
        long his = Math.floorDiv(x.end(1, 0), x.end(1, 1));
        for (int a = -3; a <= 3; a++) {
            for (int b = -3; b <= 3; b++) {
                int her = (int) hers + a;
                int him = (int) his + b;
                compare(name("beforehand", her, him), x.beforehand(her, him),
                    m -> m.beforehand(her, him));
            }
        }
    }
}
