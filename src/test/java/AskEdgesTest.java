/** Boundary cases of KINDS, ASKS, THE TRACE and counts: promises 20 to 25, parts 3 and 4. */
public final class AskEdgesTest {
    private static final int NONE = Checks.NONE;
    private static final int MIN = Checks.MIN;
    private static final int MAX = Checks.MAX;
    private static final String OWN = "law own own own own most sums stays 50;";
    private static final String ALL_BOTH = "law both both both both both sums all 50;";
    private static final String ALL_OWN = "law own own own own most sums all 50;";

    private static final Checks c = new Checks();

    public static void main(String[] args) {
        numbers();
        withoutThings();
        owns();
        commons();
        feds();
        changeds();
        everyKindAsEach();
        bodies();
        ofEachNumber();
        greatAnswers();
        traceBounds();
        traceIsEmptyAhead();
        traceStays();
        counts();
        countsOfNothing();
        statuses();
        c.end();
    }

    // "BAD": no such THING, KIND, ASK
    private static void numbers() {
        for (int things : new int[] {1, 9, 10}) {
            WhatWasHers x = Checks.lived(OWN + "buy 0 0 1 0;".repeat(things));
            for (int no : Checks.outside(0, things - 1)) {
                c.due("kind of " + no, x.kind(no), Checks.BAD);
                c.due("as of " + no, x.as(no, 0), Checks.BAD);
                c.due("no thing as no kind", x.as(no, 6), Checks.BAD);
                c.due("size of " + no, x.ask(no, 0), Checks.BAD);
                c.due("mark of " + no, x.ask(no, 1), Checks.BAD);
            }
            for (int t = 0; t < things; t++) {
                c.due("kind of " + t, x.kind(t), 1);
                c.due("as of " + t, x.as(t, 1), t);
                c.due("mark of " + t, x.ask(t, 1), t + 10);
                for (int no : Checks.outside(0, 5)) {
                    c.due("as " + no, x.as(t, no), Checks.BAD);
                }
                for (int no : Checks.outside(0, 1)) {
                    c.due("ask " + no, x.ask(t, no), Checks.BAD);
                }
            }
            c.due("the status of the last that was not BAD", x.status(), 0);
        }
    }

    private static void withoutThings() {
        for (WhatWasHers x : new WhatWasHers[] {new WhatWasHers(), Checks.lived(OWN)}) {
            for (int t : new int[] {-1, 0, 1, 9, MIN, MAX}) {
                c.due("kind of " + t, x.kind(t), Checks.BAD);
                c.due("ask of " + t, x.ask(t, 0), Checks.BAD);
                for (int kind = -1; kind <= 6; kind++) {
                    c.due("as of " + t, x.as(t, kind), Checks.BAD);
                }
            }
            c.due("no status", x.status(), 0);
            c.due("no trace", x.trace(0), NONE);
        }
    }

    private static void kindIs(String text, int thing, int kind) {
        WhatWasHers x = Checks.lived(text);
        c.due("kind of " + thing + " by " + text, x.kind(thing), kind);
        // Which KINDS each one is, too: bits 0 to 5.
        int[] kinds = {1, 1 + 2, 1 + 4, 1 + 2 + 8, 1 + 2 + 8 + 16, 1 + 4 + 32};
        for (int k = 0; k < 6; k++) {
            boolean is = (kinds[kind] >> k & 1) != 0;
            c.due("thing " + thing + " as " + k + " by " + text, x.as(thing, k),
                is ? thing : Checks.KIND);
            c.due("its status", x.status(), is ? 0 : 3);
        }
    }

    // "1 OWN, a THING: HERS or HIS"
    private static void owns() {
        kindIs(OWN + "come 0 given 0 1;", 0, 1);
        kindIs(OWN + "come 0 given 1 1;", 0, 1);
        kindIs(OWN + "buy 0 5 0 0;", 0, 1);
        kindIs(OWN + "buy 0 0 5 0;", 0, 1);
        kindIs(OWN + "come 0 given 1 1;put 0 0 1 9;", 0, 1);
        kindIs(OWN + "agree 0 1 1;come 0 given 0 1;", 0, 1);
        // It changed its purse, but none fed it.
        kindIs(ALL_BOTH + ALL_OWN + "come 0 given 0 1;land 1 1;", 0, 1);
        kindIs(ALL_BOTH + ALL_OWN + "come 0 given 0 1;put 0 0 0 1;land 1 1;", 0, 1);
        kindIs(ALL_OWN + "agree 0 4 1;buy 0 9 0 0;agree 0 4 0;land 1 0;", 0, 1);
    }

    // "2 COMMON, a THING: BOTH's"; "5 MADE, a COMMON one: bought"
    private static void commons() {
        kindIs(ALL_BOTH + "come 0 given 0 1;", 0, 2);
        kindIs(ALL_BOTH + "come 0 given 0 1;put 0 0 0 1;put 0 0 1 1;", 0, 2);
        kindIs(OWN + ALL_BOTH + "come 0 given 0 1;put 0 0 1 1;land 1 1;", 0, 2);
        kindIs(OWN + "buy 0 0 0 1;", 0, 5);
        kindIs(ALL_BOTH + "buy 0 1 1 0;", 0, 5);
        kindIs(OWN + "agree 0 4 2;buy 0 1 0 0;", 0, 5);
        kindIs(OWN + ALL_BOTH + "buy 0 2 1 0;land 1 1;", 0, 5);
        kindIs(OWN + ALL_BOTH + "buy 0 2 0 0;land 1 1;", 0, 1);
    }

    // "3 FED, an OWN one: another PURSE has a PUT in it"
    private static void feds() {
        for (int who = 0; who < 2; who++) {
            for (int purse = 0; purse < 3; purse++) {
                kindIs(OWN + "come 0 given " + who + " 1;put 0 0 " + purse + " 1;", 0,
                    purse == who ? 1 : 3);
            }
        }
        kindIs(OWN + "buy 0 2 1 0;", 0, 3);
        kindIs(OWN + "buy 0 2 0 1;", 0, 3);
        kindIs(OWN + "buy 0 2 0 0;", 0, 1);
        kindIs(OWN + "buy 0 2 0 0;put 0 0 0 9;", 0, 1);
        kindIs(OWN + "buy 0 2 0 0;put 0 0 0 9;put 0 0 2 1;", 0, 3);
        kindIs(OWN + "agree 0 4 0;buy 0 0 1 0;", 0, 3);
        kindIs(OWN + "come 0 given 0 1;come 0 given 0 1;put 0 1 1 1;", 0, 1);
        kindIs(OWN + "come 0 given 0 1;come 0 given 0 1;put 0 1 1 1;", 1, 3);
        // A PUT into a THING is held against that THING's PURSE, whatever the others' are.
        kindIs(OWN + "come 0 given 1 1;come 0 given 0 1;put 0 1 0 1;", 1, 1);
        kindIs(OWN + "come 0 given 1 1;come 0 given 0 1;put 0 1 1 1;", 1, 3);
        // A land that leaves it where it was changes nothing.
        kindIs(ALL_OWN + "buy 0 2 1 0;land 1 0;", 0, 3);
    }

    // "4 CHANGED, a FED one: it FELL into another PURSE first"
    private static void changeds() {
        kindIs(ALL_BOTH + ALL_OWN + "buy 0 2 1 0;land 1 1;", 0, 4);
        kindIs(ALL_BOTH + ALL_OWN + "come 0 given 0 1;put 0 0 1 1;land 1 1;", 0, 4);
        kindIs(ALL_BOTH + ALL_OWN + "come 0 given 1 1;land 1 1;put 2 0 2 1;", 0, 4);
        kindIs(ALL_OWN + "come 0 given 0 1;put 0 0 0 1;agree 0 1 1;land 1 0;", 0, 4);
        kindIs(ALL_OWN + "agree 0 4 1;buy 0 9 0 0;agree 0 4 0;put 0 0 1 1;land 1 0;", 0, 4);
        // Back where it fell first.
        kindIs(ALL_OWN + ALL_BOTH + "buy 0 2 1 0;land 1 1;land 2 0;", 0, 3);
        // By way of both's to his: another one first.
        kindIs(ALL_OWN + ALL_BOTH + "buy 0 2 1 0;land 1 1;agree 1 4 1;land 2 0;", 0, 4);
        // The first alone counts, not the one ahead of the last.
        kindIs(ALL_OWN + "agree 0 1 1;come 0 given 0 1;put 0 0 2 1;agree 0 1 0;land 1 0;"
            + "agree 1 1 1;land 2 0;", 0, 3);
    }

    private static void everyKindAsEach() {
        WhatWasHers x = Checks.lived(MANY);
        int[] kinds = {1, 1, 3, 3, 4, 4, 2, 2, 5, 5};
        for (int t = 0; t < kinds.length; t++) {
            c.due("kind of " + t, x.kind(t), kinds[t]);
            kindIs(MANY, t, kinds[t]);
        }
    }

    /** Two THINGS of each KIND, told in order: OWN, FED, CHANGED, COMMON, MADE. */
    private static final String MANY = "law own own own own most sums stays 50;"
        + "law own both own own both sums all 50;"
        + "come 0 brought 0 5;come 0 brought 1 6;come 0 earned 0 7;put 0 2 1 1;buy 0 1 9 1;"
        + "buy 0 3 2 1;buy 0 4 1 2;come 0 given 0 8;come 0 given 1 9;agree 1 4 1;land 1 1;"
        + "agree 2 4 2;buy 2 0 0 3;buy 2 9 0 0;";

    private static void askIs(WhatWasHers x, int thing, int what, long answer, int... bodies) {
        String name = "ask " + thing + ", " + what;
        c.due(name, x.ask(thing, what), answer);
        for (int i = 0; i < 17; i++) {
            c.due(name + ": trace " + i, x.trace(i), i < bodies.length ? bodies[i] : NONE);
        }
    }

    // the part marked 4
    private static void bodies() {
        WhatWasHers x = Checks.lived(MANY);
        askIs(x, 0, 0, 5, 11, 10, 21, 20);
        askIs(x, 0, 1, 0, 21, 20);
        askIs(x, 1, 0, 6 + 11, 11, 10, 21, 20);
        askIs(x, 1, 1, 11, 21, 20);
        askIs(x, 2, 0, 8 + 2 - 1, 12, 11, 10, 21, 20);
        askIs(x, 2, 1, 2, 21, 20);
        askIs(x, 3, 0, 11 + 13 - 3, 12, 11, 10, 21, 20);
        askIs(x, 4, 0, 2 * (6 + 114 - 3), 13, 12, 11, 10, 23, 21, 20);
        askIs(x, 4, 1, 4 + 10 + 100, 23, 21, 20);
        askIs(x, 5, 0, 2 * (7 + 115 - 3), 13, 12, 11, 10, 23, 21, 20);
        WhatWasHers both = Checks.lived(MANY);
        askIs(both, 6, 0, 24, 14, 10);
        askIs(both, 6, 1, 6, 20);
        askIs(both, 7, 0, 27, 14, 10);
        askIs(both, 8, 0, 9, 14, 10);
        askIs(both, 8, 1, 8 + 9, 22, 20, 14, 10);
        askIs(both, 9, 1, 9 + 27, 22, 20, 14, 10);
    }

    private static void ofEachNumber() {
        WhatWasHers x = Checks.lived("law own own own own most sums all 0;"
            + "come 0 given 0 1;".repeat(10));
        for (int t = 0; t < 10; t++) {
            c.due("size of " + t, x.ask(t, 0), 1 + t);
            c.due("mark of " + t, x.ask(t, 1), t);
        }
        WhatWasHers both = Checks.lived("law both both both both both sums all 0;"
            + "come 0 given 0 1;".repeat(9) + "buy 0 1 0 1;");
        for (int t = 0; t < 9; t++) {
            c.due("size of both's " + t, both.ask(t, 0), 3);
            c.due("mark of both's " + t, both.ask(t, 1), t);
        }
        c.due("mark of the made one", both.ask(9, 1), 9 + 6);
    }

    private static void greatAnswers() {
        String puts = "put 0 0 1 99;".repeat(28);
        WhatWasHers fed = Checks.lived("law own own own own most sums all 0;come 0 given 0 99;" + puts);
        askIs(fed, 0, 0, 29 * 99 - 28, 12, 11, 10, 21, 20);
        WhatWasHers none = Checks.lived(OWN + "come 0 given 0 1;put 0 0 1 1;now 0 0 0;");
        askIs(none, 0, 0, -1, 12, 11, 10, 21, 20);
        WhatWasHers changed = Checks.lived(ALL_OWN + "come 0 given 0 1;put 0 0 2 1;now 0 0 0;"
            + "agree 0 1 1;land 1 0;");
        askIs(changed, 0, 0, 2 * (0 + 110 - 1), 13, 12, 11, 10, 23, 21, 20);
        WhatWasHers made = Checks.lived("law both both both both both sums all 0;buy 0 99 99 99;"
            + "put 0 0 0 99;".repeat(29));
        askIs(made, 0, 0, 3 * 32 * 99, 14, 10);
        askIs(made, 0, 1, 3 * 32 * 99, 22, 20, 14, 10);
    }

    // "(the first 16)"; "Number i of THE TRACE; NONE"
    private static void traceBounds() {
        WhatWasHers x = Checks.lived(MANY);
        for (int t = 0; t < 10; t++) {
            for (int what = 0; what < 2; what++) {
                x.ask(t, what);
                for (int no : new int[] {-1, -16, MIN, MIN + 1, 7, 8, 15, 16, 17, MAX}) {
                    c.due("trace " + no, x.trace(no), NONE);
                }
            }
        }
        x.ask(4, 0);
        c.due("the last of the longest", x.trace(6), 20);
        c.due("the first", x.trace(0), 13);
    }

    // "THE TRACE is empty ahead of it"
    private static void traceIsEmptyAhead() {
        WhatWasHers x = Checks.lived(MANY);
        for (int i = -1; i < 17; i++) {
            c.due("no trace yet", x.trace(i), NONE);
        }
        x.ask(4, 0);
        askIs(x, 6, 1, 6, 20);
        askIs(x, 6, 1, 6, 20);
        askIs(x, 6, 0, 24, 14, 10);
    }

    private static void traceStays() {
        WhatWasHers x = Checks.lived(MANY);
        x.ask(8, 1);
        x.ask(10, 0);
        x.ask(-1, 1);
        x.ask(0, 2);
        x.ask(0, -1);
        x.kind(0);
        x.as(0, 1);
        x.hangs();
        x.beside(1, 0, 0);
        x.beforehand(9, 9);
        x.whose(0, 0);
        Checks.live(x, OWN);
        x.ask(0, 0);
        x.life();
        int[] bodies = {22, 20, 14, 10};
        for (int i = 0; i < bodies.length; i++) {
            c.due("the trace stays", x.trace(i), bodies[i]);
        }
        c.due("and no more", x.trace(4), NONE);
    }

    // ---- promise 24

    private static void counts() {
        WhatWasHers x = Checks.lived(MANY);
        long[] due = {0, 2, 14, 10, 12, 0, 1};
        for (int what = 0; what < due.length; what++) {
            c.due("count " + what, x.count(what), due[what]);
        }
        for (int row = 0; row < 8; row++) {
            x.row(row, 0, 0);
            c.due("rows", x.count(0), row + 1);
        }
        x.row(3, 2, 40);
        c.due("a row in place of one", x.count(0), 8);
        x.drop(0);
        x.drop(7);
        c.due("rows that are left", x.count(0), 6);
        for (int bytes = 1; bytes <= 8; bytes++) {
            x.feed(0, 1);
            c.due("bytes", x.count(5), bytes);
        }
        x.life();
        c.due("no bytes then", x.count(5), 0);
        c.due("the law at the end", x.count(6), 1);
    }

    private static void countsOfNothing() {
        WhatWasHers x = new WhatWasHers();
        for (int what = 0; what < 6; what++) {
            c.due("count of nothing " + what, x.count(what), 0);
        }
        c.due("no law", x.count(6), NONE);
        x.life();
        c.due("no law behind a fault", x.count(6), NONE);
        WhatWasHers[] some = {x, Checks.lived(OWN)};
        for (WhatWasHers y : some) {
            for (int no : Checks.outside(0, 6)) {
                c.due("count " + no, y.count(no), Checks.BAD);
            }
        }
        c.due("the first law", some[1].count(6), 0);
        c.due("one law", some[1].count(1), 1);
    }

    // ---- promise 25: "or as(), that was not BAD, STATE, FULL"

    private static void statuses() {
        WhatWasHers x = Checks.lived(MANY);
        x.as(0, 2);
        c.due("no such kind", x.status(), 3);
        x.as(0, 6);
        x.as(10, 0);
        c.due("BAD leaves it", x.status(), 3);
        x.kind(0);
        x.ask(0, 0);
        x.trace(0);
        x.count(0);
        x.feed(0, 8);
        x.feed(0, 9);
        x.life();
        x.fault();
        x.whose(0, 0);
        x.thing(0, 0);
        x.purse(0, 0);
        x.fed(0, 1);
        x.owed(0, 1, 0);
        x.net(0, 0);
        x.end(0, 0);
        x.beside(0, 0, 0);
        x.hangs();
        x.beforehand(0, 0);
        Checks.live(x, MANY);
        c.due("calls without a row leave it", x.status(), 3);
        x.as(0, 1);
        c.due("as without a finding", x.status(), 0);
        x.drop(0);
        c.due("a finding of a row", x.status(), 1);
        x.as(0, 0);
        c.due("as without a finding behind it", x.status(), 0);
        x.as(0, 5);
        x.row(0, 0, 10);
        c.due("a row without a finding behind it", x.status(), 0);
        x.as(0, 5);
        c.due("judge: all things are hers by that row, but one", x.judge(0, 0), 1);
        c.due("judge without a finding", x.status(), 0);
        x.as(0, 5);
        x.judge(0, 1);
        c.due("judge: place", x.status(), 2);
        x.set(0, 0, 9);
        x.as(0, 5);
        x.judge(0, 0);
        c.due("judge: BAD leaves it", x.status(), 3);
    }
}
