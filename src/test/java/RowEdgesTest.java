import java.util.Arrays;

/**
 * Boundary cases of ROWS: promises 2 to 5, the part marked 1, and promise 25 as far as ROWS go.
 * ITEMS can be seen by judge() alone: by a LIFE with one THING that is HERS.
 */
public final class RowEdgesTest {
    private static final int NONE = Checks.NONE;
    private static final int MIN = Checks.MIN;
    private static final int MAX = Checks.MAX;
    private static final int[] NO_ROWS = Checks.outside(0, 7);
    private static final String HERS = "law own own own own most sums all 0;come 0 given 0 1;";
    private static final String HIS = "law own own own own most sums all 0;come 0 given 1 1;";

    private static final Checks c = new Checks();

    public static void main(String[] args) {
        missingAtFirst();
        rowNumbers();
        lanes();
        sizes();
        itemsAreZeroAtFirst();
        itemsInPlaceOfOthers();
        rowsApart();
        bitsOfLanes();
        whatIsKept();
        placesOfSet();
        placesOfCopy();
        greatNumbersOfCopy();
        lanesOfCopy();
        whatIsCopied();
        onto();
        wholeRows();
        orderOfCopy();
        drops();
        statuses();
        c.end();
    }

    private static WhatWasHers withHers() {
        return Checks.lived(HERS);
    }

    /** What judge() answers of an ITEM where the one THING is HERS. */
    private static long judged(int item) {
        if (item < 0 || item > 2) {
            return Checks.BAD;
        }
        return item == 0 ? NONE : 0;
    }

    private static void itemsAre(String name, WhatWasHers x, int row, int... items) {
        for (int i = 0; i < items.length; i++) {
            c.due(name + ": item " + i, x.judge(row, i), judged(items[i]));
        }
        c.due(name + ": behind its last", x.judge(row, items.length), Checks.PLACE);
    }

    private static void fill(WhatWasHers x, int row, int... items) {
        for (int i = 0; i < items.length; i++) {
            x.set(row, i, items[i]);
        }
    }

    // "ROWS 0 .. 7 are missing (at first)"
    private static void missingAtFirst() {
        for (int row = 0; row < 8; row++) {
            WhatWasHers x = withHers();
            c.due("set of missing " + row, x.set(row, 0, 0), Checks.NULL);
            c.due("copy of missing " + row, x.copy(row, 0, row, 0, 0), Checks.NULL);
            c.due("drop of missing " + row, x.drop(row), Checks.NULL);
            c.due("judge of missing " + row, x.judge(row, 0), Checks.NULL);
            c.due("no row is there", x.count(0), 0);
        }
    }

    private static void rowNumbers() {
        WhatWasHers x = withHers();
        for (int row = 0; row < 8; row++) {
            c.due("row " + row, x.row(row, row % 3, row), row);
            c.due("so many rows", x.count(0), row + 1);
        }
        for (int no : NO_ROWS) {
            c.due("row " + no, x.row(no, 0, 1), Checks.BAD);
            c.due("set " + no, x.set(no, 0, 1), Checks.BAD);
            c.due("copy from " + no, x.copy(no, 0, 0, 0, 0), Checks.BAD);
            c.due("copy to " + no, x.copy(0, 0, no, 0, 0), Checks.BAD);
            c.due("drop " + no, x.drop(no), Checks.BAD);
            c.due("judge " + no, x.judge(no, 0), Checks.BAD);
            c.due("judge without a life " + no, new WhatWasHers().judge(no, 0), Checks.BAD);
        }
        c.due("still so many rows", x.count(0), 8);
        for (int row = 0; row < 8; row++) {
            c.due("drop " + row, x.drop(row), row);
        }
        c.due("none is left", x.count(0), 0);
    }

    // "a LANE (0 bytes, 1 shorts, 2 ints)"
    private static void lanes() {
        WhatWasHers x = new WhatWasHers();
        int[] then = {112, 4464, 70000};
        for (int lane = 0; lane < 3; lane++) {
            c.due("lane " + lane, x.row(lane, lane, 1), 1);
            c.due("is one of " + lane, x.set(lane, 0, 70000), then[lane]);
        }
        for (int no : Checks.outside(0, 2)) {
            c.due("lane " + no, x.row(0, no, 1), Checks.BAD);
            c.due("lane " + no + ", fewer than none", x.row(0, no, -1), Checks.BAD);
        }
        c.due("bytes still", x.set(0, 0, 70000), 112);
        c.due("ints in place of bytes", x.row(0, 2, 1), 1);
        c.due("ints then", x.set(0, 0, 70000), 70000);
        c.due("shorts in place of ints", x.row(0, 1, 1), 1);
        c.due("shorts then", x.set(0, 0, 70000), 4464);
    }

    // "0 to 40 ITEMS"; "BAD: ROW, LANE, n above 40; SIZE" (fewer than none)
    private static void sizes() {
        for (int lane = 0; lane < 3; lane++) {
            WhatWasHers x = new WhatWasHers();
            for (int n : new int[] {0, 1, 2, 39, 40}) {
                c.due("row of " + n, x.row(4, lane, n), n);
                c.due("its last place", x.set(4, n - 1, 1), n == 0 ? Checks.PLACE : 1);
                c.due("behind its last place", x.set(4, n, 1), Checks.PLACE);
            }
            c.due("41 items", x.row(4, lane, 41), Checks.BAD);
            c.due("most items", x.row(4, lane, MAX), Checks.BAD);
            c.due("no row, fewer than none", x.row(8, lane, -1), Checks.BAD);
            c.due("fewer than none", x.row(4, lane, -1), Checks.SIZE);
            c.due("fewest", x.row(4, lane, MIN), Checks.SIZE);
            c.due("fewer than none where there is none", x.row(5, lane, -1), Checks.SIZE);
            c.due("no row more", x.count(0), 1);
            c.due("the row stays", x.drop(4), 40);
            c.due("and none was made", x.drop(5), Checks.NULL);
        }
    }

    // "0 to 40 ITEMS, 0 at first"
    private static void itemsAreZeroAtFirst() {
        for (int lane = 0; lane < 3; lane++) {
            WhatWasHers x = withHers();
            x.row(0, lane, 40);
            itemsAre("new row", x, 0, new int[40]);
            x.row(7, lane, 40);
            itemsAre("new last row", x, 7, new int[40]);
        }
    }

    // "A ROW of a LANE with n ITEMS, in place of what is there"
    private static void itemsInPlaceOfOthers() {
        int[] ones = new int[40];
        Arrays.fill(ones, 1);
        WhatWasHers again = withHers();
        again.row(3, 0, 40);
        fill(again, 3, ones);
        again.row(3, 0, 40);
        itemsAre("a row again", again, 3, new int[40]);
        WhatWasHers shorter = withHers();
        shorter.row(3, 2, 40);
        fill(shorter, 3, ones);
        shorter.row(3, 2, 1);
        itemsAre("a shorter row", shorter, 3, 0);
        shorter.row(3, 2, 40);
        itemsAre("a longer row behind a shorter one", shorter, 3, new int[40]);
        WhatWasHers dropped = withHers();
        dropped.row(3, 1, 40);
        fill(dropped, 3, ones);
        dropped.drop(3);
        dropped.row(3, 1, 40);
        itemsAre("a row behind a dropped one", dropped, 3, new int[40]);
    }

    private static void rowsApart() {
        WhatWasHers x = withHers();
        for (int row = 0; row < 8; row++) {
            x.row(row, 0, 40);
        }
        fill(x, 3, new int[40]);
        x.set(2, 39, 1);
        x.set(4, 0, 1);
        itemsAre("rows beside it do not reach into it", x, 3, new int[40]);
        x.row(3, 0, 40);
        c.due("the last item of the row ahead stays", x.judge(2, 39), 0);
        c.due("the first item of the row behind stays", x.judge(4, 0), 0);
        x.drop(3);
        c.due("the row ahead stays", x.drop(2), 40);
        c.due("the row behind stays", x.judge(4, 0), 0);
    }

    // "ITEM i becomes v, its lowest bits, as many as the LANE has: what it is then"
    private static void bitsOfLanes() {
        WhatWasHers x = new WhatWasHers();
        for (int lane = 0; lane < 3; lane++) {
            x.row(lane, lane, 1);
        }
        int[] bytes = {0, 0, 1, 1, -1, -1, 127, 127, 128, -128, 129, -127, 255, -1, 256, 0, 257, 1,
            -128, -128, -129, 127, -255, 1, -256, 0, 32768, 0, MIN, 0, MIN + 1, 1, MAX, -1};
        setsBecome(x, 0, bytes);
        int[] shorts = {0, 0, 1, 1, -1, -1, 127, 127, 128, 128, 256, 256, 32767, 32767,
            32768, -32768, 65535, -1, 65536, 0, 65537, 1, -32768, -32768, -32769, 32767, MIN, 0,
            MIN + 1, 1, MAX, -1};
        setsBecome(x, 1, shorts);
        int[] ints = {0, 0, 1, 1, -1, -1, 128, 128, 256, 256, 32768, 32768, 65536, 65536, MIN, MIN,
            MAX, MAX};
        setsBecome(x, 2, ints);
    }

    private static void setsBecome(WhatWasHers x, int row, int... pairs) {
        for (int k = 0; k < pairs.length; k += 2) {
            c.due("lane " + row + " set " + pairs[k], x.set(row, 0, pairs[k]), pairs[k + 1]);
        }
    }

    private static void whatIsKept() {
        WhatWasHers x = withHers();
        x.row(0, 0, 1);
        x.row(1, 1, 1);
        x.row(2, 2, 1);
        int[] whole = {0, 256, 65536, MIN, 128, 32768, -1, 2};
        for (int v : whole) {
            x.set(0, 0, v);
            itemsAre("byte " + v, x, 0, (byte) v);
            x.set(1, 0, v);
            itemsAre("short " + v, x, 1, (short) v);
            x.set(2, 0, v);
            itemsAre("int " + v, x, 2, v);
        }
        Checks.live(x, HIS);
        x.set(0, 0, 257);
        c.due("byte 257 is kept as 1", x.judge(0, 0), NONE);
        x.set(1, 0, 65537);
        c.due("short 65537 is kept as 1", x.judge(1, 0), NONE);
        x.set(2, 0, 65537);
        c.due("int 65537 is kept as it is", x.judge(2, 0), Checks.BAD);
    }

    private static void placesOfSet() {
        WhatWasHers x = withHers();
        x.row(0, 0, 4);
        for (int no : Checks.outside(0, 3)) {
            c.due("set place " + no, x.set(0, no, 1), Checks.PLACE);
        }
        itemsAre("no place: nothing set", x, 0, 0, 0, 0, 0);
        c.due("first place", x.set(0, 0, 1), 1);
        itemsAre("the first alone", x, 0, 1, 0, 0, 0);
        c.due("last place", x.set(0, 3, 3), 3);
        itemsAre("the last, too", x, 0, 1, 0, 0, 3);
        x.row(1, 2, 0);
        for (int no : new int[] {-1, 0, 1, MIN, MAX}) {
            c.due("set place " + no + " of an empty row", x.set(1, no, 1), Checks.PLACE);
        }
        c.due("missing ahead of place", x.set(2, -1, 1), Checks.NULL);
        c.due("bad ahead of missing", x.set(8, -1, 1), Checks.BAD);
    }

    // "PLACE (i, j, n below 0, or beyond an end)"
    private static void placesOfCopy() {
        int sizeA = 3;
        int sizeB = 2;
        for (int i = -1; i <= sizeA + 1; i++) {
            WhatWasHers x = new WhatWasHers();
            x.row(0, 1, sizeA);
            x.row(1, 1, sizeB);
            for (int j = -1; j <= sizeB + 1; j++) {
                for (int n = -1; n <= sizeA + 1; n++) {
                    boolean there = i >= 0 && j >= 0 && n >= 0 && i + n <= sizeA && j + n <= sizeB;
                    c.due("copy from " + i + " to " + j + ", " + n, x.copy(0, i, 1, j, n),
                        there ? n : Checks.PLACE);
                    c.due("its status", x.status(), there ? 0 : 2);
                }
            }
        }
        WhatWasHers empty = new WhatWasHers();
        empty.row(0, 0, 0);
        c.due("none of an empty row", empty.copy(0, 0, 0, 0, 0), 0);
        c.due("one of an empty row", empty.copy(0, 0, 0, 0, 1), Checks.PLACE);
        c.due("from behind an empty row", empty.copy(0, 1, 0, 0, 0), Checks.PLACE);
        c.due("to behind an empty row", empty.copy(0, 0, 0, 1, 0), Checks.PLACE);
    }

    private static void greatNumbersOfCopy() {
        WhatWasHers x = withHers();
        x.row(0, 0, 4);
        fill(x, 0, 0, 1, 3, 0);
        int[] great = {MIN, MIN + 1, -41, -1, 41, MAX - 1, MAX};
        for (int g : great) {
            c.due("from " + g, x.copy(0, g, 0, 0, 1), Checks.PLACE);
            c.due("to " + g, x.copy(0, 0, 0, g, 1), Checks.PLACE);
            c.due("so many: " + g, x.copy(0, 0, 0, 0, g), Checks.PLACE);
            c.due("so many from 1: " + g, x.copy(0, 1, 0, 0, g), Checks.PLACE);
            c.due("so many to 1: " + g, x.copy(0, 0, 0, 1, g), Checks.PLACE);
            c.due("none from " + g, x.copy(0, g, 0, 0, 0), Checks.PLACE);
            c.due("none to " + g, x.copy(0, 0, 0, g, 0), Checks.PLACE);
            for (int h : great) {
                c.due("from and so many: " + g + ", " + h, x.copy(0, g, 0, 0, h), Checks.PLACE);
                c.due("to and so many: " + g + ", " + h, x.copy(0, 0, 0, g, h), Checks.PLACE);
            }
        }
        itemsAre("nothing copied", x, 0, 0, 1, 3, 0);
    }

    // "5 STORE (ROWS of two LANES)"
    private static void lanesOfCopy() {
        for (int a = 0; a < 3; a++) {
            for (int b = 0; b < 3; b++) {
                WhatWasHers x = new WhatWasHers();
                x.row(0, a, 2);
                x.row(1, b, 2);
                c.due("copy of lane " + a + " to " + b, x.copy(0, 0, 1, 0, 2),
                    a == b ? 2 : Checks.STORE);
                c.due("none of lane " + a + " to " + b, x.copy(0, 2, 1, 2, 0),
                    a == b ? 0 : Checks.STORE);
                c.due("beyond the end, of lane " + a + " to " + b, x.copy(0, 0, 1, 0, 3),
                    a == b ? Checks.PLACE : Checks.STORE);
            }
        }
    }

    // "n ITEMS of a from i on come to b from j on"
    private static void whatIsCopied() {
        WhatWasHers x = withHers();
        x.row(0, 2, 5);
        x.row(7, 2, 5);
        fill(x, 0, 0, 1, 3, 1, 0);
        fill(x, 7, 3, 3, 3, 3, 3);
        c.due("two", x.copy(0, 1, 7, 2, 2), 2);
        itemsAre("the two came", x, 7, 3, 3, 1, 3, 3);
        itemsAre("the one row stays", x, 0, 0, 1, 3, 1, 0);
        c.due("none", x.copy(0, 0, 7, 0, 0), 0);
        itemsAre("none came", x, 7, 3, 3, 1, 3, 3);
        c.due("the last to the first", x.copy(0, 4, 7, 0, 1), 1);
        itemsAre("the last came first", x, 7, 0, 3, 1, 3, 3);
        c.due("back", x.copy(7, 0, 0, 0, 5), 5);
        itemsAre("back", x, 0, 0, 3, 1, 3, 3);
        x.set(0, 0, 1);
        itemsAre("the rows stay apart", x, 7, 0, 3, 1, 3, 3);
    }

    // "as they were ahead"
    private static void onto() {
        int[] items = {0, 1, 3, 0, 3, 1};
        for (int i = 0; i <= items.length; i++) {
            for (int j = 0; j <= items.length; j++) {
                WhatWasHers x = withHers();
                x.row(5, 0, items.length);
                for (int n = 0; n <= items.length - Math.max(i, j); n++) {
                    fill(x, 5, items);
                    c.due("onto itself", x.copy(5, i, 5, j, n), n);
                    int[] then = items.clone();
                    for (int k = 0; k < n; k++) {
                        then[j + k] = items[i + k];
                    }
                    itemsAre("onto itself from " + i + " to " + j + ", " + n, x, 5, then);
                }
            }
        }
    }

    private static void wholeRows() {
        WhatWasHers x = withHers();
        x.row(0, 0, 40);
        x.row(1, 0, 40);
        int[] items = new int[40];
        for (int i = 0; i < 40; i++) {
            items[i] = i * i % 7 % 4;
        }
        fill(x, 0, items);
        c.due("all forty", x.copy(0, 0, 1, 0, 40), 40);
        itemsAre("all forty", x, 1, items);
        c.due("forty-one", x.copy(0, 0, 1, 0, 41), Checks.PLACE);
        c.due("forty from 1 on", x.copy(0, 1, 1, 0, 40), Checks.PLACE);
        c.due("the last one", x.copy(0, 39, 1, 39, 1), 1);
        c.due("none behind the last one", x.copy(0, 40, 1, 40, 0), 0);
        c.due("none behind that", x.copy(0, 41, 1, 40, 0), Checks.PLACE);
        itemsAre("all forty still", x, 1, items);
    }

    // "BAD: ROWS; NULL; STORE; PLACE"
    private static void orderOfCopy() {
        WhatWasHers x = new WhatWasHers();
        x.row(0, 0, 1);
        x.row(1, 1, 1);
        for (int no : NO_ROWS) {
            c.due("no row a, b missing", x.copy(no, -1, 2, -1, -1), Checks.BAD);
            c.due("no row b, a missing", x.copy(2, -1, no, -1, -1), Checks.BAD);
            c.due("no row at all", x.copy(no, 0, no, 0, 0), Checks.BAD);
        }
        c.due("a missing ahead of all", x.copy(2, -1, 0, 9, 9), Checks.NULL);
        c.due("b missing ahead of all", x.copy(0, -1, 2, 9, 9), Checks.NULL);
        c.due("both missing", x.copy(2, 0, 3, 0, 0), Checks.NULL);
        c.due("two lanes ahead of a place", x.copy(0, -1, 1, 9, 9), Checks.STORE);
    }

    // "A ROW is missing from now on: how many ITEMS it had"
    private static void drops() {
        for (int n : new int[] {0, 1, 39, 40}) {
            WhatWasHers x = withHers();
            x.row(6, 2, n);
            c.due("drop of " + n, x.drop(6), n);
            c.due("its status", x.status(), 0);
            c.due("drop again", x.drop(6), Checks.NULL);
            c.due("set of a dropped one", x.set(6, 0, 0), Checks.NULL);
            c.due("copy of a dropped one", x.copy(6, 0, 6, 0, 0), Checks.NULL);
            c.due("judge of a dropped one", x.judge(6, 0), Checks.NULL);
            c.due("no rows", x.count(0), 0);
            c.due("it may come again", x.row(6, 2, n), n);
            c.due("with as many", x.drop(6), n);
        }
    }

    // "Of the latest call with a ROW .. that was not BAD, STATE, FULL: the number of its FINDING"
    private static void statuses() {
        WhatWasHers x = new WhatWasHers();
        c.due("there was none", x.status(), 0);
        x.row(8, 0, 0);
        x.judge(0, 0);
        c.due("BAD and STATE are none", x.status(), 0);
        int[] findings = {1, 2, 2, 4, 5};
        for (int k = 0; k < findings.length; k++) {
            find(x, k);
            c.due("a finding", x.status(), findings[k]);
            x.row(8, 0, 0);
            x.set(8, 0, 0);
            x.copy(0, 0, 8, 0, 0);
            x.drop(8);
            x.judge(8, 0);
            x.judge(0, 0);
            c.due("BAD and STATE leave it", x.status(), findings[k]);
            c.due("status leaves it", x.status(), findings[k]);
            fine(x, k);
            c.due("a call without a finding", x.status(), 0);
        }
    }

    private static void find(WhatWasHers x, int which) {
        x.row(0, 0, 1);
        x.row(1, 1, 1);
        switch (which) {
            case 0: x.set(2, 0, 0); break;
            case 1: x.set(0, 1, 0); break;
            case 2: x.copy(0, 1, 0, 0, 1); break;
            case 3: x.row(0, 0, -1); break;
            default: x.copy(0, 0, 1, 0, 1); break;
        }
    }

    private static void fine(WhatWasHers x, int which) {
        switch (which) {
            case 0: x.row(0, 0, 1); break;
            case 1: x.set(0, 0, 1); break;
            case 2: x.copy(0, 0, 0, 0, 1); break;
            case 3: x.drop(0); break;
            default: x.row(0, 0, 0); break;
        }
    }
}
