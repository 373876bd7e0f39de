import java.util.List;
import java.util.function.Supplier;
import java.util.function.ToLongFunction;

/**
 * "What is refused, or found, changes nothing but status()": of two objects that were made alike
 * one gets a call more that is refused; then all that can be seen of both is alike. The same holds
 * for calls that only tell.
 */
public final class RefusalsTest {
    private static final int MIN = Checks.MIN;
    private static final int MAX = Checks.MAX;
    private static final int NO_CHANGE = -1;
    private static final int[] NO_ROWS = Checks.outside(0, 7);
    private static final String LIFE = "law own both own own most parts stays 40;"
        + "law both own own own both worth all 60;come 0 given 0 20;buy 1 3 4 5;put 2 0 1 7;"
        + "come 3 heired 1 9;owes 4 1 3;agree 4 3 2;land 5 1;put 5 1 0 6;";

    private static final Checks c = new Checks();

    private static Supplier<WhatWasHers> maker;
    private static int statusAhead;

    public static void main(String[] args) {
        without(RefusalsTest::withoutALife);
        maker = RefusalsTest::withALife;
        statusAhead = 3;
        refusedRows();
        refusedNumbers();
        refusedWithALife();
        tells();
        fullTape();
        faultsChangeNoLife();
        findingsChangeTheStatusAlone();
        c.end();
    }

    private static void without(Supplier<WhatWasHers> made) {
        maker = made;
        statusAhead = 1;
        refusedRows();
        refusedNumbers();
        refusedWithoutALife();
    }

    /** Some ROWS, a FAULT, an unfinished law on the tape; the status is 1. */
    private static WhatWasHers withoutALife() {
        WhatWasHers x = new WhatWasHers();
        Checks.tell(x, "law own own own own most sums all 101;");
        x.life();
        addRows(x);
        Checks.tell(x, "law own own own own most sums all 7");
        x.drop(3);
        return x;
    }

    /** The same with a LIFE and a TRACE; the status is 3. */
    private static WhatWasHers withALife() {
        WhatWasHers x = withoutALife();
        x.life();
        Checks.live(x, LIFE);
        Checks.tell(x, "law own own own own most sums all 7");
        x.ask(1, 1);
        x.as(2, 1);
        return x;
    }

    private static void addRows(WhatWasHers x) {
        x.row(0, 0, 4);
        x.set(0, 1, 2);
        x.set(0, 2, 2);
        x.set(0, 3, 9);
        x.row(1, 1, 3);
        x.set(1, 1, 1);
        x.set(1, 2, 32767);
        x.row(2, 2, 2);
        x.set(2, 0, MIN);
        x.row(7, 0, 0);
    }

    private static void refused(String call, ToLongFunction<WhatWasHers> made, long answer) {
        boolean found = answer <= Checks.NULL;
        leaves(call, made, answer, found ? (int) (WhatWasHers.NOT - 10 - answer) : NO_CHANGE);
    }

    private static void leaves(String call, ToLongFunction<WhatWasHers> made, long answer,
            int status) {
        WhatWasHers x = maker.get();
        WhatWasHers twin = maker.get();
        c.due(call + ": status ahead", x.status(), statusAhead);
        c.due(call, made.applyAsLong(x), answer);
        c.due(call + ": status behind", x.status(), status == NO_CHANGE ? statusAhead : status);
        alike(call, Seen.of(x), Seen.of(twin));
    }

    private static void alike(String call, List<String> one, List<String> other) {
        c.due(call + ": as much is seen", one.size(), other.size());
        for (int k = 0; k < Math.min(one.size(), other.size()); k++) {
            boolean same = one.get(k).equals(other.get(k));
            c.due(call + " changed " + other.get(k) + " into " + one.get(k), same ? 1 : 0, 1);
        }
    }

    // ---- promises 2 to 5

    private static void refusedRows() {
        for (int no : NO_ROWS) {
            refused("row of no row " + no, x -> x.row(no, 0, 1), Checks.BAD);
            refused("row of no row, fewer than none", x -> x.row(no, 0, -1), Checks.BAD);
            refused("set of no row " + no, x -> x.set(no, 0, 1), Checks.BAD);
            refused("copy of no row " + no, x -> x.copy(no, 0, 0, 0, 1), Checks.BAD);
            refused("copy to no row " + no, x -> x.copy(0, 0, no, 0, 1), Checks.BAD);
            refused("drop of no row " + no, x -> x.drop(no), Checks.BAD);
            refused("judge of no row " + no, x -> x.judge(no, 0), Checks.BAD);
        }
        for (int no : Checks.outside(0, 2)) {
            refused("row of no lane " + no, x -> x.row(0, no, 1), Checks.BAD);
            refused("missing row of no lane " + no, x -> x.row(3, no, 1), Checks.BAD);
        }
        for (int row : new int[] {0, 3}) {
            refused("41 items", x -> x.row(row, 0, 41), Checks.BAD);
            refused("most items", x -> x.row(row, 2, MAX), Checks.BAD);
            refused("fewer than none", x -> x.row(row, 1, -1), Checks.SIZE);
            refused("fewest", x -> x.row(row, 1, MIN), Checks.SIZE);
        }
        refused("set of a missing row", x -> x.set(3, 0, 1), Checks.NULL);
        for (int no : Checks.outside(0, 3)) {
            refused("set of no place " + no, x -> x.set(0, no, 1), Checks.PLACE);
            refused("copy from no place " + no, x -> x.copy(0, no, 0, 0, 1), Checks.PLACE);
            refused("copy to no place " + no, x -> x.copy(0, 0, 0, no, 1), Checks.PLACE);
        }
        refused("set of an empty row", x -> x.set(7, 0, 1), Checks.PLACE);
        refused("copy of a missing row", x -> x.copy(3, 0, 0, 0, 1), Checks.NULL);
        refused("copy to a missing row", x -> x.copy(0, 0, 3, 0, 1), Checks.NULL);
        refused("copy to another lane", x -> x.copy(0, 0, 1, 0, 1), Checks.STORE);
        refused("copy of another lane", x -> x.copy(2, 0, 1, 0, 1), Checks.STORE);
        refused("copy of too many", x -> x.copy(0, 0, 7, 0, 1), Checks.PLACE);
        refused("copy of fewer than none", x -> x.copy(0, 0, 0, 1, -1), Checks.PLACE);
        refused("copy of fewest", x -> x.copy(0, 1, 0, 0, MIN), Checks.PLACE);
        refused("copy of most", x -> x.copy(0, 1, 0, 0, MAX), Checks.PLACE);
        refused("copy beyond the end, though some are there", x -> x.copy(0, 0, 0, 1, 4),
            Checks.PLACE);
        refused("drop of a missing row", x -> x.drop(3), Checks.NULL);
    }

    // ---- numbers that are BAD with a LIFE and without one

    private static void refusedNumbers() {
        for (int no : Checks.outside(1, 8)) {
            refused("feed of " + no, x -> x.feed(-1L, no), Checks.BAD);
        }
        for (int no : Checks.outside(0, 2)) {
            refused("whose of " + no, x -> x.whose(no, 0), Checks.BAD);
            refused("thing of " + no, x -> x.thing(no, 0), Checks.BAD);
            refused("purse " + no, x -> x.purse(no, 0), Checks.BAD);
            refused("fed of " + no, x -> x.fed(no, 0), Checks.BAD);
            refused("fed into " + no, x -> x.fed(0, no), Checks.BAD);
            refused("owed of " + no, x -> x.owed(no, 0, 0), Checks.BAD);
            refused("owed by " + no, x -> x.owed(0, no, 0), Checks.BAD);
            refused("net of " + no, x -> x.net(no, 0), Checks.BAD);
            refused("kind of " + no, x -> x.kind(no), Checks.BAD);
            refused("as of " + no, x -> x.as(no, 0), Checks.BAD);
            refused("ask of " + no, x -> x.ask(no, 0), Checks.BAD);
        }
        for (int no : Checks.outside(0, 1)) {
            refused("owed, " + no, x -> x.owed(0, 1, no), Checks.BAD);
            refused("net, " + no, x -> x.net(0, no), Checks.BAD);
            refused("end of " + no, x -> x.end(no, 0), Checks.BAD);
            refused("end, " + no, x -> x.end(0, no), Checks.BAD);
            refused("ask, " + no, x -> x.ask(0, no), Checks.BAD);
        }
        for (int p = 0; p < 3; p++) {
            int purse = p;
            refused("fed alike", x -> x.fed(purse, purse), Checks.BAD);
            refused("owed alike", x -> x.owed(purse, purse, 0), Checks.BAD);
        }
        for (int no : Checks.outside(0, 3)) {
            refused("purse, " + no, x -> x.purse(0, no), Checks.BAD);
        }
        for (int no : Checks.outside(0, 6)) {
            refused("thing, " + no, x -> x.thing(0, no), Checks.BAD);
            refused("count of " + no, x -> x.count(no), Checks.BAD);
        }
        for (int no : Checks.outside(0, 5)) {
            refused("as, " + no, x -> x.as(0, no), Checks.BAD);
        }
        for (int no : Checks.outside(0, 999)) {
            refused("whose on day " + no, x -> x.whose(0, no), Checks.BAD);
        }
        for (int no : Checks.outside(-9999, 9999)) {
            refused("her wish " + no, x -> x.beforehand(no, 0), Checks.BAD);
            refused("his wish " + no, x -> x.beforehand(0, no), Checks.BAD);
        }
        for (int no : new int[] {-1, 16, MIN, MAX}) {
            refused("trace of " + no, x -> x.trace(no), Checks.NONE);
        }
    }

    private static void refusedWithoutALife() {
        refused("judge", x -> x.judge(0, 0), Checks.STATE);
        refused("judge of a missing row", x -> x.judge(3, 0), Checks.STATE);
        refused("judge of no place", x -> x.judge(0, -1), Checks.STATE);
        refused("owed", x -> x.owed(0, 1, 0), Checks.STATE);
        refused("net", x -> x.net(0, 1), Checks.STATE);
        refused("end", x -> x.end(1, 0), Checks.STATE);
        refused("beside", x -> x.beside(0, 0, 0), Checks.STATE);
        refused("beside of nothing that is", x -> x.beside(-1, 1000, 2), Checks.STATE);
        refused("hangs", x -> x.hangs(), Checks.STATE);
        refused("beforehand", x -> x.beforehand(0, 0), Checks.STATE);
        refused("whose", x -> x.whose(0, 0), Checks.BAD);
        refused("thing", x -> x.thing(0, 0), Checks.BAD);
        refused("kind", x -> x.kind(0), Checks.BAD);
        refused("as", x -> x.as(0, 0), Checks.BAD);
        refused("ask", x -> x.ask(0, 0), Checks.BAD);
        leaves("purse", x -> x.purse(0, 0), 0, NO_CHANGE);
        leaves("fed", x -> x.fed(0, 1), 0, NO_CHANGE);
    }

    private static void refusedWithALife() {
        refused("judge of a missing row", x -> x.judge(3, 0), Checks.NULL);
        for (int no : new int[] {2, 4, -1, MIN, MAX}) {
            refused("judge of no place " + no, x -> x.judge(0, no), Checks.PLACE);
        }
        refused("judge of an empty row", x -> x.judge(7, 0), Checks.PLACE);
        refused("judge of an item that is no purse", x -> x.judge(0, 1), Checks.BAD);
        refused("judge of another", x -> x.judge(1, 0), Checks.BAD);
        for (int no : Checks.outside(0, 1)) {
            refused("beside by law " + no, x -> x.beside(no, 0, 0), Checks.BAD);
            refused("beside, " + no, x -> x.beside(0, 0, no), Checks.BAD);
        }
        for (int no : Checks.outside(0, 999)) {
            refused("beside on day " + no, x -> x.beside(0, no, 0), Checks.BAD);
        }
        for (int kind : new int[] {1, 3, 4, 5}) {
            refused("as " + kind, x -> x.as(2, kind), Checks.KIND);
        }
    }

    // ---- calls that only tell

    private static void tells() {
        leaves("judge", x -> x.judge(0, 0), Checks.NONE, 0);
        leaves("as", x -> x.as(2, 2), 2, 0);
        leaves("whose", x -> x.whose(1, 5), 2, NO_CHANGE);
        leaves("whose ahead", x -> x.whose(2, 0), Checks.NONE, NO_CHANGE);
        leaves("thing", x -> x.thing(1, 4), 18, NO_CHANGE);
        leaves("purse", x -> x.purse(1, 2), 3, NO_CHANGE);
        leaves("fed", x -> x.fed(0, 2), 9, NO_CHANGE);
        leaves("kind", x -> x.kind(1), 5, NO_CHANGE);
        leaves("count", x -> x.count(3), 3, NO_CHANGE);
        leaves("fault", x -> x.fault(), 1, NO_CHANGE);
        leaves("status", x -> x.status(), 3, NO_CHANGE);
        leaves("trace", x -> x.trace(0), 22, NO_CHANGE);
        leaves("hangs", x -> x.hangs() >= 0 ? 1 : 0, 1, NO_CHANGE);
        leaves("beside", x -> x.beside(0, 3, 1) > 0 ? 1 : 0, 1, NO_CHANGE);
        leaves("beside by all", x -> x.beside(1, 0, 1) > 0 ? 1 : 0, 1, NO_CHANGE);
        leaves("beforehand", x -> x.beforehand(9999, 9999), Checks.NONE, NO_CHANGE);
        leaves("owed", x -> x.owed(0, 2, 1), 1, NO_CHANGE);
        leaves("net", x -> x.net(2, 1), 1, NO_CHANGE);
        leaves("end", x -> x.end(1, 1) > 0 ? 1 : 0, 1, NO_CHANGE);
    }

    // "FULL: none comes"
    private static void fullTape() {
        Supplier<WhatWasHers> before = maker;
        for (int n = 1; n <= 8; n++) {
            int size = n;
            for (int bytes : new int[] {500, 501 - n}) {
                maker = () -> fed(before.get(), bytes);
                refused("feed of " + n + " behind " + bytes, x -> x.feed(-1L, size), Checks.FULL);
            }
        }
        maker = before;
    }

    /** Blanks behind what stands on the tape, up to so many bytes in all. */
    private static WhatWasHers fed(WhatWasHers x, int bytes) {
        Checks.tell(x, " ".repeat(bytes - (int) x.count(5)));
        c.due("so many bytes", x.count(5), bytes);
        return x;
    }

    // "NOT less 100 less the place of a FAULT: the LIFE stays"
    private static void faultsChangeNoLife() {
        String[] wrong = {"", " ", ";", LIFE + "x", LIFE + "owes 9 0 0;",
            LIFE + "come 9 given 0 1;".repeat(8)};
        int[] places = {0, 1, 0, LIFE.length(), LIFE.length() + 9, LIFE.length() + 7 * 17};
        for (int k = 0; k < wrong.length; k++) {
            WhatWasHers x = maker.get();
            WhatWasHers twin = maker.get();
            // Both twins' tapes are read, so that only the text of the other FAULT differs.
            x.life();
            twin.life();
            Checks.tell(x, wrong[k]);
            c.due("a fault", x.life(), WhatWasHers.NOT - 100 - places[k]);
            c.due("status behind a fault", x.status(), 3);
            List<String> one = Seen.of(x);
            List<String> other = Seen.of(twin);
            // What differs by right: the number of the latest FAULT, told first.
            alike("a fault of " + wrong[k], one.subList(1, one.size()),
                other.subList(1, other.size()));
        }
    }

    /** FINDINGS one behind the other: each leaves all as it was, and its own number. */
    private static void findingsChangeTheStatusAlone() {
        WhatWasHers x = maker.get();
        WhatWasHers twin = maker.get();
        long[] answers = {x.set(3, 0, 0), x.status(), x.set(0, 4, 0), x.status(), x.as(2, 1),
            x.status(), x.row(0, 0, -1), x.status(), x.copy(0, 0, 1, 0, 1), x.status(),
            x.judge(0, 2), x.status(), x.judge(4, 0), x.status(), x.drop(5), x.status()};
        long[] due = {Checks.NULL, 1, Checks.PLACE, 2, Checks.KIND, 3, Checks.SIZE, 4, Checks.STORE,
            5, Checks.PLACE, 2, Checks.NULL, 1, Checks.NULL, 1};
        for (int k = 0; k < due.length; k++) {
            c.due("findings, " + k, answers[k], due[k]);
        }
        alike("findings", Seen.of(x), Seen.of(twin));
    }
}
