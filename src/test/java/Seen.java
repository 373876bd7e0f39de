import java.util.ArrayList;
import java.util.List;

/**
 * All that can be seen of an object from outside, by one long run of calls that uses it up: at the
 * end of it the tape has been read, and no ROW is left.
 */
final class Seen {
    private static final int[] DAYS = {0, 1, 3, 5, 999};
    private static final String ONE = "law own own own own most sums all 0;agree 0 0 *;"
        + "come 0 brought 0 1;";

    private final WhatWasHers x;
    private final List<String> seen = new ArrayList<>();

    private Seen(WhatWasHers x) {
        this.x = x;
    }

    /** The status is left out: who asks for all of this has asked for it already. */
    static List<String> of(WhatWasHers x) {
        Seen s = new Seen(x);
        s.counts();
        s.things();
        s.purses();
        s.beside();
        s.tape();
        s.items();
        s.rows();
        return s.seen;
    }

    private void note(String call, long answer) {
        seen.add(call + " -> " + answer);
    }

    private void counts() {
        note("fault()", x.fault());
        for (int what = 0; what < 7; what++) {
            note("count(" + what + ")", x.count(what));
        }
        for (int i = 0; i < 16; i++) {
            note("trace(" + i + ")", x.trace(i));
        }
    }

    private void things() {
        long things = x.count(3);
        for (int t = 0; t < things; t++) {
            for (int what = 0; what < 7; what++) {
                note("thing(" + t + ", " + what + ")", x.thing(t, what));
            }
            for (int day : DAYS) {
                note("whose(" + t + ", " + day + ")", x.whose(t, day));
            }
            note("kind(" + t + ")", x.kind(t));
        }
    }

    private void purses() {
        for (int p = 0; p < 3; p++) {
            for (int what = 0; what < 4; what++) {
                note("purse(" + p + ", " + what + ")", x.purse(p, what));
            }
            for (int what = 0; what < 2; what++) {
                note("net(" + p + ", " + what + ")", x.net(p, what));
                for (int q = 0; q < 3; q++) {
                    note("owed(" + p + ", " + q + ", " + what + ")", x.owed(p, q, what));
                }
            }
            for (int q = 0; q < 3; q++) {
                note("fed(" + p + ", " + q + ")", x.fed(p, q));
            }
        }
        for (int who = 0; who < 2; who++) {
            for (int what = 0; what < 2; what++) {
                note("end(" + who + ", " + what + ")", x.end(who, what));
            }
        }
    }

    private void beside() {
        for (int law = 0; law < 2; law++) {
            for (int day : DAYS) {
                note("beside(" + law + ", " + day + ", 0)", x.beside(law, day, 0));
                note("beside(" + law + ", " + day + ", 1)", x.beside(law, day, 1));
            }
        }
        note("hangs()", x.hangs());
        note("beforehand(5, 5)", x.beforehand(5, 5));
        note("beforehand(20, 0)", x.beforehand(20, 0));
    }

    private void tape() {
        note("feed(';')", x.feed(';', 1));
        note("life() of the tape", x.life());
        note("fault() of the tape", x.fault());
        note("laws of the tape", x.count(1));
        note("events of the tape", x.count(2));
    }

    /** Each ITEM is held against one THING in each PURSE. */
    private void items() {
        for (int purse = 0; purse < 3; purse++) {
            Checks.live(x, ONE.replace("*", Integer.toString(purse)));
            for (int row = 0; row < 8; row++) {
                for (int i = 0; i < 5; i++) {
                    note("judge(" + row + ", " + i + ") of " + purse, x.judge(row, i));
                }
            }
        }
    }

    private void rows() {
        for (int row = 0; row < 8; row++) {
            note("lane of " + row, x.set(row, 0, 70000));
            note("copy to row 7 of " + row, x.copy(row, 0, 7, 0, 0));
        }
        for (int row = 0; row < 8; row++) {
            note("drop(" + row + ")", x.drop(row));
        }
    }
}
