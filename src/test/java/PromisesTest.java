/** Each promise by hand: ordinary inputs, the edges that the document names, wrong inputs. */
public final class PromisesTest {
    private static final int NONE = WhatWasHers.NONE;
    private static final long NOT = WhatWasHers.NOT;
    private static final String LAW = "law own own both own most sums stays 50;";
    private static final int MIN = Integer.MIN_VALUE;
    private static final int MAX = Integer.MAX_VALUE;

    private static final Checks c = new Checks();

    public static void main(String[] args) {
        c.due("NONE", NONE, -1000000L);
        c.due("NOT", NOT, -9000000000000000000L);
        newObject();
        rows();
        sets();
        copies();
        drops();
        feeds();
        lives();
        faults();
        limitsOfTexts();
        latestFault();
        whose();
        falls();
        things();
        judges();
        purses();
        owedByKinds();
        owedByParts();
        refusedSums();
        beside();
        hangs();
        beforehand();
        kinds();
        asks();
        counts();
        statuses();
        c.end();
    }

    private static String events(String law, String... events) {
        return law + String.join("", events);
    }

    // ---- promise 1

    private static void newObject() {
        WhatWasHers x = new WhatWasHers();
        for (int what = 0; what < 6; what++) {
            c.due("new: count " + what, x.count(what), 0);
        }
        c.due("new: count 6", x.count(6), NONE);
        c.due("new: fault", x.fault(), 0);
        c.due("new: status", x.status(), 0);
        c.due("new: trace", x.trace(0), NONE);
        c.due("new: whose", x.whose(0, 0), Checks.BAD);
        c.due("new: hangs", x.hangs(), Checks.STATE);
        for (int row = 0; row < 8; row++) {
            c.due("new: drop " + row, x.drop(row), Checks.NULL);
        }
    }

    // ---- promises 2 to 5

    private static void rows() {
        WhatWasHers x = new WhatWasHers();
        c.due("row 40", x.row(0, 0, 40), 40);
        c.due("row 0 items", x.row(7, 2, 0), 0);
        c.due("row 41", x.row(0, 0, 41), Checks.BAD);
        c.due("row -1", x.row(-1, 0, 1), Checks.BAD);
        c.due("row 8", x.row(8, 0, 1), Checks.BAD);
        c.due("lane -1", x.row(0, -1, 1), Checks.BAD);
        c.due("lane 3", x.row(0, 3, 1), Checks.BAD);
        c.due("lane 3, fewer than none", x.row(0, 3, -1), Checks.BAD);
        c.due("row max", x.row(MAX, MAX, MAX), Checks.BAD);
        c.due("fewer than none", x.row(0, 0, -1), Checks.SIZE);
        c.due("fewest", x.row(0, 0, MIN), Checks.SIZE);
        c.due("the row is still there", x.set(0, 39, 5), 5);
        c.due("a row in place of it", x.row(0, 2, 40), 40);
        x.row(1, 2, 40);
        x.set(1, 0, 9);
        c.due("its items are 0", x.copy(0, 0, 1, 0, 40), 40);
        Checks.tell(x, events(LAW, "come 0 brought 0 1;"));
        x.life();
        c.due("its items are 0: judged", x.judge(0, 39), NONE);
        c.due("a shorter row", x.row(0, 0, 2), 2);
        c.due("is shorter", x.set(0, 2, 1), Checks.PLACE);
    }

    private static void sets() {
        WhatWasHers x = new WhatWasHers();
        x.row(0, 0, 3);
        x.row(1, 1, 3);
        x.row(2, 2, 3);
        c.due("byte", x.set(0, 0, 127), 127);
        c.due("byte 128", x.set(0, 0, 128), -128);
        c.due("byte 256 + 7", x.set(0, 0, 263), 7);
        c.due("byte -1", x.set(0, 0, -1), -1);
        c.due("short", x.set(1, 2, 32767), 32767);
        c.due("short 32768", x.set(1, 2, 32768), -32768);
        c.due("short 65536 + 3", x.set(1, 2, 65539), 3);
        c.due("int", x.set(2, 2, MIN), MIN);
        c.due("int max", x.set(2, 2, MAX), MAX);
        c.due("place 3", x.set(2, 3, 1), Checks.PLACE);
        c.due("place -1", x.set(2, -1, 1), Checks.PLACE);
        c.due("place max", x.set(2, MAX, 1), Checks.PLACE);
        c.due("missing", x.set(3, -1, 1), Checks.NULL);
        c.due("no row", x.set(8, 0, 1), Checks.BAD);
        c.due("no row below", x.set(-1, 0, 1), Checks.BAD);
    }

    private static void copies() {
        WhatWasHers x = Checks.lived(events(LAW, "come 0 brought 0 1;", "come 0 brought 1 1;",
            "come 0 earned 1 1;"));
        x.row(0, 0, 5);
        x.set(0, 1, 1);
        x.set(0, 2, 2);
        c.due("judged", x.judge(0, 0), NONE);
        c.due("onto itself, upwards", x.copy(0, 0, 0, 1, 4), 4);
        c.due("as they were ahead", x.judge(0, 1), NONE);
        c.due("onto itself, downwards", x.copy(0, 1, 0, 0, 4), 4);
        c.due("as they were ahead", x.judge(0, 0), NONE);
        x.row(1, 0, 3);
        c.due("to another", x.copy(0, 0, 1, 0, 3), 3);
        c.due("came to the other", x.judge(1, 0), NONE);
        c.due("the one stays", x.judge(0, 0), NONE);
        c.due("none", x.copy(0, 5, 1, 3, 0), 0);
        c.due("beyond the end of a", x.copy(0, 3, 1, 0, 3), Checks.PLACE);
        c.due("beyond the end of b", x.copy(0, 0, 1, 1, 3), Checks.PLACE);
        c.due("none beyond an end", x.copy(0, 6, 1, 0, 0), Checks.PLACE);
        c.due("i below 0", x.copy(0, -1, 1, 0, 1), Checks.PLACE);
        c.due("j below 0", x.copy(0, 0, 1, -1, 1), Checks.PLACE);
        c.due("n below 0", x.copy(0, 1, 1, 1, -1), Checks.PLACE);
        c.due("greatest numbers", x.copy(0, MAX, 1, MAX, MAX), Checks.PLACE);
        x.row(2, 1, 3);
        c.due("two lanes", x.copy(0, 0, 2, 0, 1), Checks.STORE);
        c.due("two lanes ahead of a place", x.copy(0, -1, 2, 0, 1), Checks.STORE);
        c.due("missing ahead of all", x.copy(0, -1, 3, 0, 1), Checks.NULL);
        c.due("missing a", x.copy(3, -1, 0, 0, 1), Checks.NULL);
        c.due("no row a", x.copy(8, 0, 3, 0, 1), Checks.BAD);
        c.due("no row b", x.copy(3, 0, -1, 0, 1), Checks.BAD);
    }

    private static void drops() {
        WhatWasHers x = new WhatWasHers();
        x.row(5, 1, 17);
        c.due("drop", x.drop(5), 17);
        c.due("missing then", x.drop(5), Checks.NULL);
        c.due("missing for set", x.set(5, 0, 0), Checks.NULL);
        c.due("no row", x.drop(8), Checks.BAD);
        c.due("no row below", x.drop(-1), Checks.BAD);
        x.row(5, 1, 0);
        c.due("drop of an empty one", x.drop(5), 0);
    }

    // ---- promises 6 to 8

    private static void feeds() {
        WhatWasHers x = new WhatWasHers();
        c.due("n 0", x.feed(1, 0), Checks.BAD);
        c.due("n 9", x.feed(1, 9), Checks.BAD);
        c.due("n -1", x.feed(1, -1), Checks.BAD);
        c.due("n min", x.feed(1, MIN), Checks.BAD);
        for (int k = 1; k <= 62; k++) {
            c.due("eight more", x.feed(-1L, 8), 8L * k);
        }
        c.due("five are too many", x.feed(-1L, 5), Checks.FULL);
        c.due("bad ahead of full", x.feed(-1L, 9), Checks.BAD);
        c.due("none came", x.count(5), 496);
        c.due("four", x.feed(-1L, 4), 500);
        c.due("one is too many", x.feed(-1L, 1), Checks.FULL);
        c.due("all bytes of value 255", x.life(), NOT - 100);
        c.due("the tape is empty then", x.count(5), 0);
        c.due("the lowest three, highest first", x.feed(0x7878_7878_206c_6177L, 3), 3);
        Checks.tell(x, LAW.substring(3));
        c.due("read", x.life(), 0);
    }

    private static void lives() {
        WhatWasHers x = new WhatWasHers();
        lifeIs(x, "law\nown\n own own own most parts all 0 ; ", 0);
        lifeIs(x, "\n  law own own own own most parts all 100;come 999 heired 1 99;", 1);
        lifeIs(x, "law own own own own most parts all 007;come 000given1 01;", 1);
        c.due("its day", x.whose(0, 0), 1);
        lifeIs(x, LAW + "come 5 given 0 1;buy 5 0 0 1;put 5 0 2 99;now 6 1 0;owes 6 2 1;"
            + "land 7 0;agree 7 4 2;", 7);
        c.due("things", x.count(3), 2);
        c.due("a life stays", failed(x, "law own;"), NOT - 107);
        c.due("a life stays: things", x.count(3), 2);
        c.due("a life stays: events", x.count(2), 7);
        c.due("a life stays: hers", x.end(0, 0), 50);
        lifeIs(x, LAW, 0);
        c.due("another life in its place", x.count(3), 0);
        c.due("no puts of the one before", x.count(4), 0);
        c.due("nothing came", x.purse(0, 1), 0);
        c.due("no things", x.purse(2, 3), 0);
        c.due("no debts", x.purse(2, 2), 0);
        lifeIs(x, LAW + "come 0 given 0 5;put 1 0 1 6;", 2);
        lifeIs(x, LAW + "come 0 given 1 7;", 1);
        c.due("no puts into the thing", x.thing(0, 5), 0);
        c.due("none fed", x.fed(1, 0), 0);
        c.due("none owed", x.owed(1, 0, 0), 0);
        c.due("his alone", x.end(1, 0), 7);
        c.due("a thing that is there no more", failed(x, LAW + "put 0 0 0 1;"), NOT - 146);
        lifeIs(x, LAW + "agree 0 0 1;come 0 brought 0 1;", 2);
    }

    private static void lifeIs(WhatWasHers x, String text, long events) {
        Checks.tell(x, text);
        c.due("life of " + text, x.life(), events);
    }

    private static long failed(WhatWasHers x, String text) {
        Checks.tell(x, text);
        return x.life();
    }

    private static void faultIs(String text, int place, int number) {
        WhatWasHers x = new WhatWasHers();
        c.due("life of " + text, failed(x, text), NOT - 100 - place);
        c.due("fault of " + text, x.fault(), number);
        c.due("no life by " + text, x.hangs(), Checks.STATE);
        c.due("the tape is empty then", x.count(5), 0);
    }

    private static void faults() {
        faultIs("", 0, 1);
        faultIs("  \n", 3, 1);
        faultIs("law own own", 11, 1);
        faultIs("law own own  ", 13, 1);
        faultIs("laws own", 0, 1);
        faultIs("la", 0, 1);
        faultIs("Law", 0, 1);
        faultIs("\tlaw", 0, 1);
        faultIs("law own own own own most most", 25, 1);
        faultIs("law own own own own most sums stays ;", 36, 1);
        faultIs("law own own own own most sums stays 50 ", 39, 1);
        faultIs("law own own own own most sums stays 50 5;", 39, 1);
        faultIs("law own own own own most sums stays 101;", 36, 2);
        faultIs("law own own own own most sums stays 0050;", 36, 1);
        faultIs("law own own own own most sums stays -1;", 36, 1);
        faultIs(LAW + ";", 40, 1);
        faultIs(LAW + "come 1 given 0 1", 56, 1);
        faultIs(LAW + "come 1 given 0 1;law", 57, 1);
        faultIs(LAW + "come 1 given 0 1;Come", 57, 1);
        faultIs(LAW + "come 1 given 0 1;" + (char) 233, 57, 1);
        faultIs(LAW + "come 1 given 0 1;" + (char) 0, 57, 1);
        faultIs(LAW + "come x given 0 1;", 45, 1);
        faultIs(LAW + "come 1 givens 0 1;", 47, 1);
        faultIs(LAW + "come 1 1 0 1;", 47, 1);
        faultIs(LAW + "come 1 given 2 1;", 53, 2);
        faultIs(LAW + "come 1 given 0 0;", 55, 2);
        faultIs(LAW + "come 1 given 0 100;", 55, 2);
        faultIs(LAW + "come 1 given 0 1000;", 55, 1);
        faultIs(LAW + "buy 1 100 0 1;", 46, 2);
        faultIs(LAW + "buy 1 0 100 1;", 48, 2);
        faultIs(LAW + "buy 1 0 0 100;", 50, 2);
        faultIs(LAW + "buy 1 0 0 0;", 50, 2);
        faultIs(LAW + "buy 1 1;", 47, 1);
        faultIs(LAW + "put 1 0 0 1;", 46, 2);
        faultIs(LAW + "come 1 given 0 1;put 1 0 3 1;", 65, 2);
        faultIs(LAW + "come 1 given 0 1;put 1 0 0 0;", 67, 2);
        faultIs(LAW + "come 1 given 0 1;put 0 0 0 1;", 61, 2);
        faultIs(LAW + "come 1 given 0 1;now 1 1 1;", 63, 2);
        faultIs(LAW + "come 1 given 0 1;now 1 0 100;", 65, 2);
        faultIs(LAW + "owes 1 3 1;", 47, 2);
        faultIs(LAW + "owes 1 0 0;", 49, 2);
        faultIs(LAW + "land 1 1;", 47, 2);
        faultIs(LAW + "agree 1 5 0;", 48, 2);
        faultIs(LAW + "agree 1 4 3;", 50, 2);
    }

    private static void limitsOfTexts() {
        String law = "law own own own own most sums all 0;";
        String owes = "owes 0 0 1;";
        lifeIs(new WhatWasHers(), law.repeat(4), 0);
        faultIs(law.repeat(5), 144, 3);
        faultIs(law.repeat(4) + "lawful", 144, 1);
        lifeIs(new WhatWasHers(), law + owes.repeat(30), 30);
        faultIs(law + owes.repeat(31), 366, 3);
        faultIs(law + owes.repeat(30) + "law", 366, 1);
        faultIs(law + owes.repeat(30) + "7", 366, 1);
        lifeIs(new WhatWasHers(), law + "buy 0 1 0 0;".repeat(10), 10);
        faultIs(law + "buy 0 1 0 0;".repeat(10) + "come", 156, 3);
        faultIs(law + "buy 0 1 0 0;".repeat(11), 156, 3);
        lifeIs(new WhatWasHers(), law + "buy 0 1 0 0;".repeat(10) + "now 0 9 3;", 11);
        lifeIs(new WhatWasHers(), law.repeat(4) + "land 0 3;", 1);
        faultIs(law.repeat(3) + "land 0 3;", 115, 2);
    }

    private static void latestFault() {
        WhatWasHers x = new WhatWasHers();
        c.due("before one", x.fault(), 0);
        failed(x, LAW + "land 0 1;");
        c.due("a number", x.fault(), 2);
        lifeIs(x, LAW, 0);
        c.due("the latest stays", x.fault(), 2);
        failed(x, "x");
        c.due("the latest", x.fault(), 1);
    }

    // ---- promises 9 to 11

    private static final String TWO_LANDS = "law own own own own most sums stays 50;"
        + "law both both both both both sums all 50;"
        + "law own own own own most sums all 25;";

    private static void whose() {
        WhatWasHers x = Checks.lived(events(TWO_LANDS, "come 3 brought 1 5;", "land 5 1;",
            "come 5 given 0 6;", "land 9 0;", "come 9 given 0 7;", "land 20 2;"));
        c.due("not yet", x.whose(0, 2), NONE);
        c.due("from its day on", x.whose(0, 3), 1);
        c.due("ahead of the land", x.whose(0, 4), 1);
        c.due("behind all of that day", x.whose(0, 5), 2);
        c.due("by the land then", x.whose(1, 5), 2);
        c.due("a land that changes none", x.whose(1, 9), 2);
        c.due("hers", x.whose(2, 9), 0);
        c.due("ahead of the last land", x.whose(0, 19), 2);
        c.due("behind it", x.whose(0, 20), 1);
        c.due("at the end", x.whose(1, 999), 0);
        c.due("not yet", x.whose(2, 8), NONE);
        c.due("day 0", x.whose(2, 0), NONE);
        c.due("day -1", x.whose(0, -1), Checks.BAD);
        c.due("day 1000", x.whose(0, 1000), Checks.BAD);
        c.due("day max", x.whose(0, MAX), Checks.BAD);
        c.due("no thing", x.whose(3, 5), Checks.BAD);
        c.due("no thing below", x.whose(-1, 5), Checks.BAD);
    }

    private static void fallsInto(String text, int... purses) {
        WhatWasHers x = Checks.lived(text);
        c.due("things of " + text, x.count(3), purses.length);
        for (int t = 0; t < purses.length; t++) {
            c.due("purse of " + t + " by " + text, x.thing(t, 0), purses[t]);
        }
    }

    private static void falls() {
        String all = "come 0 brought 1 1;come 0 given 1 1;come 0 earned 1 1;come 0 heired 1 1;";
        fallsInto("law both own own own most sums stays 1;" + all, 2, 1, 1, 1);
        fallsInto("law own both own own most sums stays 1;" + all, 1, 2, 1, 1);
        fallsInto("law own own both own most sums stays 1;" + all, 1, 1, 2, 1);
        fallsInto("law own own own both most sums stays 1;" + all, 1, 1, 1, 2);
        String buys = "buy 0 1 2 3;buy 0 3 3 2;buy 0 2 3 3;buy 0 3 2 3;buy 0 0 9 0;buy 0 0 0 1;"
            + "buy 0 7 0 0;buy 0 5 5 5;buy 0 0 1 1;";
        fallsInto("law own own own own most sums stays 1;" + buys, 2, 0, 1, 0, 1, 2, 0, 0, 1);
        fallsInto("law own own own own both sums stays 1;" + buys, 2, 2, 2, 2, 1, 2, 0, 2, 2);
        fallsInto(LAW + "agree 0 1 1;come 0 given 0 1;come 0 brought 0 1;agree 1 1 2;"
            + "come 1 given 0 1;agree 2 4 0;buy 2 0 0 9;", 1, 0, 2, 0);
        String put = "law own own own own most sums all 1;buy 0 1 2 0;put 0 0 0 9;land 1 0;";
        fallsInto(put, 1);
    }

    private static void thingIs(WhatWasHers x, int thing, int... told) {
        for (int what = 0; what < told.length; what++) {
            c.due("thing " + thing + ", " + what, x.thing(thing, what), told[what]);
        }
    }

    private static void things() {
        WhatWasHers x = Checks.lived(events(TWO_LANDS, "come 0 heired 0 5;", "buy 0 3 0 4;",
            "agree 1 3 1;", "put 1 1 0 2;", "land 2 1;", "come 3 brought 1 9;", "land 3 0;",
            "come 4 heired 0 4;", "now 4 0 77;", "put 5 0 2 9;", "come 6 earned 1 8;"));
        thingIs(x, 0, 1, 1, 0, 4, 86, 1, 3);
        thingIs(x, 1, 2, 2, 1, 4, 9, 3, 4);
        thingIs(x, 2, 2, 0, 5, 5, 9, 0, 0);
        thingIs(x, 3, 1, 1, 7, 7, 4, 0, 3);
        thingIs(x, 4, 1, 0, 10, 10, 8, 0, 2);
        c.due("what 7", x.thing(0, 7), Checks.BAD);
        c.due("what -1", x.thing(0, -1), Checks.BAD);
        c.due("no thing", x.thing(5, 0), Checks.BAD);
        c.due("no thing below", x.thing(-1, 0), Checks.BAD);
    }

    private static void judges() {
        WhatWasHers x = new WhatWasHers();
        c.due("no row ahead of no life", x.judge(8, 0), Checks.BAD);
        c.due("no life ahead of missing", x.judge(0, 0), Checks.STATE);
        Checks.tell(x, events(LAW, "come 0 given 0 1;", "come 0 given 1 1;", "come 0 earned 1 1;"));
        x.life();
        c.due("missing", x.judge(0, -1), Checks.NULL);
        x.row(0, 0, 4);
        c.due("the second is wrong", x.judge(0, 0), 1);
        x.set(0, 1, 1);
        c.due("the third is wrong", x.judge(0, 0), 2);
        x.set(0, 2, 2);
        c.due("none is wrong", x.judge(0, 0), NONE);
        c.due("the first is wrong", x.judge(0, 1), 0);
        c.due("beyond the end", x.judge(0, 2), Checks.PLACE);
        c.due("below 0", x.judge(0, -1), Checks.PLACE);
        c.due("greatest", x.judge(0, MAX), Checks.PLACE);
        x.set(0, 2, 3);
        c.due("no purse", x.judge(0, 0), Checks.BAD);
        c.due("no purse behind a wrong one", x.judge(0, 1), Checks.BAD);
        x.set(0, 2, -1);
        c.due("no purse below", x.judge(0, 0), Checks.BAD);
        x.set(0, 2, 2);
        x.set(0, 3, 9);
        c.due("an item that is not told of", x.judge(0, 0), NONE);
    }

    // ---- promises 12 to 16

    private static String law(String owe, int hundredths) {
        return "law own own both own most " + owe + " stays " + hundredths + ";";
    }

    private static final String LIFE = "come 1 brought 0 50;come 2 earned 1 20;buy 3 10 10 5;"
        + "put 4 0 1 30;now 5 2 40;owes 6 1 7;";

    private static void purseIs(WhatWasHers x, int purse, int... told) {
        for (int what = 0; what < told.length; what++) {
            c.due("purse " + purse + ", " + what, x.purse(purse, what), told[what]);
        }
    }

    private static void purses() {
        WhatWasHers x = Checks.lived(law("sums", 40) + LIFE + "owes 9 1 3;");
        purseIs(x, 0, 120, 105, 0, 2);
        purseIs(x, 1, -10, 0, 10, 0);
        purseIs(x, 2, 20, 20, 0, 1);
        c.due("fed 1 0", x.fed(1, 0), 40);
        c.due("fed 2 0", x.fed(2, 0), 5);
        c.due("fed 0 1", x.fed(0, 1), 0);
        c.due("fed 0 2", x.fed(0, 2), 0);
        WhatWasHers moved = Checks.lived("law own own own own most sums stays 50;"
            + "law both both both both both sums all 50;"
            + "come 0 given 0 5;put 0 0 0 6;put 1 0 1 7;land 2 1;put 3 0 1 8;");
        c.due("puts into things that are at the end another's", moved.fed(0, 2), 6);
        c.due("of all days", moved.fed(1, 2), 15);
        c.due("none into where it was", moved.fed(1, 0), 0);
        purseIs(moved, 2, 26, 26, 0, 1);
        WhatWasHers empty = new WhatWasHers();
        for (int what = 0; what < 4; what++) {
            c.due("no life", empty.purse(2, what), 0);
        }
        c.due("no life: fed", empty.fed(2, 1), 0);
    }

    private static void fractionIs(String name, long above, long below, long wantAbove,
            long wantBelow) {
        c.due(name + ", above", above, wantAbove);
        c.due(name + ", below", below, wantBelow);
    }

    private static void owedIs(WhatWasHers x, int p, int q, long above, long below) {
        fractionIs("owed " + p + " " + q, x.owed(p, q, 0), x.owed(p, q, 1), above, below);
    }

    private static void netIs(WhatWasHers x, int p, long above, long below) {
        fractionIs("net " + p, x.net(p, 0), x.net(p, 1), above, below);
    }

    private static void endIs(WhatWasHers x, int who, long above, long below) {
        fractionIs("end " + who, x.end(who, 0), x.end(who, 1), above, below);
    }

    private static void owedByKinds() {
        WhatWasHers sums = Checks.lived(law("sums", 40) + LIFE);
        owedIs(sums, 1, 0, 40, 1);
        owedIs(sums, 2, 0, 5, 1);
        owedIs(sums, 0, 1, 0, 1);
        netIs(sums, 0, 75, 1);
        netIs(sums, 1, 33, 1);
        netIs(sums, 2, 25, 1);
        endIs(sums, 0, 85, 1);
        endIs(sums, 1, 48, 1);
        WhatWasHers worth = Checks.lived(law("worth", 40) + LIFE);
        owedIs(worth, 1, 0, 46, 1);
        owedIs(worth, 2, 0, 8, 1);
        endIs(worth, 0, 386, 5);
        endIs(worth, 1, 279, 5);
        // Thing 2 (25 at first) is worth 40, thing 0 (80 behind the put) 33 at the end.
        String fallen = LIFE + "now 9 0 33;";
        owedIs(Checks.lived(law("worth", 0) + fallen), 1, 0, 12 + 16, 1);
        owedIs(Checks.lived(law("less", 0) + fallen), 1, 0, 12 + 10, 1);
        owedIs(Checks.lived(law("more", 0) + fallen), 1, 0, 30 + 16, 1);
        owedIs(Checks.lived(law("less", 0) + fallen), 2, 0, 5, 1);
        owedIs(Checks.lived(law("more", 0) + fallen), 2, 0, 8, 1);
        WhatWasHers debts = Checks.lived(law("sums", 33) + "owes 0 2 5;owes 0 0 7;");
        netIs(debts, 2, -5, 1);
        endIs(debts, 0, -173, 20);
        endIs(debts, 1, -67, 20);
        WhatWasHers landed = Checks.lived(law("sums", 40) + law("worth", 100) + LIFE + "land 9 1;");
        owedIs(landed, 1, 0, 46, 1);
        endIs(landed, 0, 66 + 28, 1);
        endIs(landed, 1, 39, 1);
    }

    private static void owedByParts() {
        WhatWasHers x = Checks.lived("law own own own own most parts stays 50;"
            + "come 0 brought 0 10;come 0 brought 1 10;put 1 0 1 10;put 1 1 0 30;");
        owedIs(x, 0, 1, 70, 3);
        owedIs(x, 1, 0, 130, 9);
        owedIs(x, 2, 0, 0, 1);
        netIs(x, 0, 260, 9);
        netIs(x, 1, 280, 9);
        netIs(x, 2, 0, 1);
        endIs(x, 0, 260, 9);
        endIs(x, 1, 280, 9);
        // Round and round: 3 by 10 of hers is his, 2 by 10 of his is both's, 5 by 10 of both's hers.
        String ring = "law own own both own most parts stays 50;come 0 given 0 7;come 0 given 1 8;"
            + "come 0 earned 0 5;put 0 0 1 3;put 0 1 2 2;put 0 2 0 5;";
        WhatWasHers round = Checks.lived(ring + "now 1 0 16;now 1 1 12;now 1 2 27;");
        netIs(round, 0, 20, 1);
        netIs(round, 1, 15, 1);
        netIs(round, 2, 20, 1);
        owedIs(round, 0, 2, 10, 1);
        owedIs(round, 1, 0, 6, 1);
        owedIs(round, 2, 1, 3, 1);
        WhatWasHers uneven = Checks.lived(ring + "now 1 0 13;now 1 1 12;now 1 2 15;");
        netIs(uneven, 0, 160, 11);
        netIs(uneven, 1, 150, 11);
        netIs(uneven, 2, 130, 11);
        endIs(uneven, 0, 225, 11);
        endIs(uneven, 1, 215, 11);
        // 16 came, 6 of it from him: she owes 3 by 8 of what she keeps, which is -11.
        WhatWasHers debtor = Checks.lived("law own own own own most parts stays 50;"
            + "come 0 given 0 10;put 0 0 1 6;now 0 0 0;owes 0 0 11;");
        netIs(debtor, 0, -8, 1);
        owedIs(debtor, 1, 0, -3, 1);
        netIs(debtor, 1, -3, 1);
    }

    private static void refusedSums() {
        WhatWasHers none = new WhatWasHers();
        WhatWasHers x = Checks.lived(LAW);
        WhatWasHers[] both = {none, x};
        int[] wrong = {-1, 3, MIN, MAX};
        for (WhatWasHers y : both) {
            for (int w : wrong) {
                c.due("purse", y.purse(w, 0), Checks.BAD);
                c.due("fed p", y.fed(w, 0), Checks.BAD);
                c.due("fed q", y.fed(0, w), Checks.BAD);
                c.due("owed p", y.owed(w, 0, 0), Checks.BAD);
                c.due("owed q", y.owed(0, w, 0), Checks.BAD);
                c.due("owed what", y.owed(0, 1, w), Checks.BAD);
                c.due("net", y.net(w, 0), Checks.BAD);
                c.due("net what", y.net(0, w), Checks.BAD);
                c.due("end", y.end(w, 0), Checks.BAD);
                c.due("end what", y.end(0, w), Checks.BAD);
            }
            c.due("purse what -1", y.purse(0, -1), Checks.BAD);
            c.due("purse what 4", y.purse(0, 4), Checks.BAD);
            c.due("end who 2", y.end(2, 0), Checks.BAD);
            c.due("end what 2", y.end(0, 2), Checks.BAD);
            c.due("net what 2", y.net(0, 2), Checks.BAD);
            c.due("owed what 2", y.owed(0, 1, 2), Checks.BAD);
            c.due("fed alike", y.fed(1, 1), Checks.BAD);
            c.due("owed alike", y.owed(2, 2, 0), Checks.BAD);
        }
        c.due("owed, no life", none.owed(0, 1, 1), Checks.STATE);
        c.due("net, no life", none.net(2, 1), Checks.STATE);
        c.due("end, no life", none.end(1, 1), Checks.STATE);
    }

    // ---- promises 17 to 19

    private static void besideIs(WhatWasHers x, int law, int day, long above, long below) {
        fractionIs("beside " + law + " " + day, x.beside(law, day, 0), x.beside(law, day, 1),
            above, below);
    }

    private static void beside() {
        WhatWasHers none = new WhatWasHers();
        c.due("no life ahead of bad", none.beside(9, 9, 9), Checks.STATE);
        WhatWasHers x = Checks.lived(events("law own own own own most sums stays 50;"
            + "law both both both both both sums stays 50;"
            + "law both both both both both sums all 25;",
            "come 5 given 0 10;", "come 7 given 0 20;", "come 7 given 1 40;"));
        endIs(x, 0, 30, 1);
        besideIs(x, 0, 0, 30, 1);
        besideIs(x, 1, 0, 35, 1);
        besideIs(x, 1, 5, 35, 1);
        besideIs(x, 1, 6, 40, 1);
        besideIs(x, 1, 7, 40, 1);
        besideIs(x, 1, 8, 30, 1);
        besideIs(x, 2, 0, 35, 2);
        besideIs(x, 2, 7, 35, 2);
        besideIs(x, 2, 999, 35, 2);
        endIs(x, 0, 30, 1);
        c.due("whose it is stays", x.whose(0, 999), 0);
        WhatWasHers landed = Checks.lived("law own own own own most sums stays 50;"
            + "law own own own own most sums stays 0;come 0 given 0 10;land 5 0;owes 5 2 10;");
        besideIs(landed, 1, 5, 5, 1);
        besideIs(landed, 1, 6, 10, 1);
        c.due("no law", x.beside(3, 0, 0), Checks.BAD);
        c.due("no law below", x.beside(-1, 0, 0), Checks.BAD);
        c.due("day -1", x.beside(0, -1, 0), Checks.BAD);
        c.due("day 1000", x.beside(0, 1000, 0), Checks.BAD);
        c.due("what 2", x.beside(0, 0, 2), Checks.BAD);
        c.due("what -1", x.beside(0, 0, -1), Checks.BAD);
    }

    private static void hangsOn(String text, long event) {
        WhatWasHers x = Checks.lived(text);
        long before = x.end(0, 0);
        c.due("hangs of " + text, x.hangs(), event);
        c.due("end stays", x.end(0, 0), before);
    }

    private static void hangs() {
        c.due("no life", new WhatWasHers().hangs(), Checks.STATE);
        hangsOn(LAW, NONE);
        hangsOn(LAW + "come 0 given 0 9;buy 0 1 1 1;land 1 0;", NONE);
        hangsOn(LAW + "come 0 given 0 9;owes 0 0 3;owes 0 0 4;owes 0 0 4;", 2);
        hangsOn(LAW + "come 0 given 0 9;now 0 0 30;owes 0 0 4;", 1);
        hangsOn(LAW + "come 0 given 0 9;owes 0 0 1;put 0 0 0 5;", 2);
        hangsOn(LAW + "owes 0 0 1;agree 0 1 1;come 0 given 0 9;", 1);
        hangsOn(LAW + "land 0 0;owes 0 1 5;owes 0 1 9;", 1);
        hangsOn(LAW + "owes 0 1 1;".repeat(29) + "owes 0 0 1;", 29);
        // Without it: 0, cut from a half below 0; with it -1 by 2, cut to 0, too.
        hangsOn(LAW + "owes 0 2 1;", 0);
        // -5 by 2 is cut to -2, and so is -4 by 2: the first two change nothing.
        hangsOn(LAW + "owes 0 2 1;owes 0 2 1;owes 0 2 3;", 2);
    }

    private static void beforehand() {
        WhatWasHers none = new WhatWasHers();
        c.due("no life", none.beforehand(0, 0), Checks.STATE);
        c.due("bad ahead of no life", none.beforehand(0, 10000), Checks.BAD);
        WhatWasHers x = Checks.lived("law own own own own most sums stays 50;"
            + "come 0 given 0 10;come 1 earned 1 30;buy 2 0 0 20;");
        // Thing 2 falls to both, who owe none: hers is 20, his 40.
        endIs(x, 0, 20, 1);
        c.due("so without any", x.beforehand(20, 40), 15);
        c.due("so without any", x.beforehand(-9999, -9999), 15);
        c.due("all to him: given", x.beforehand(10, 50), 4);
        c.due("given to both", x.beforehand(15, 45), 4 + 1);
        c.due("earned to her", x.beforehand(50, 10), 6);
        c.due("earned to both", x.beforehand(35, 25), 8);
        c.due("the first of two", x.beforehand(35, 0), 6);
        c.due("no such one", x.beforehand(51, 0), NONE);
        c.due("no such one", x.beforehand(21, 40), NONE);
        c.due("the greatest", x.beforehand(9999, 9999), NONE);
        c.due("wish 10000", x.beforehand(10000, 0), Checks.BAD);
        c.due("wish -10000", x.beforehand(-10000, 0), Checks.BAD);
        c.due("his -10000", x.beforehand(0, -10000), Checks.BAD);
        c.due("least", x.beforehand(MIN, MAX), Checks.BAD);
        WhatWasHers later = Checks.lived(LAW + "agree 0 1 0;come 0 given 1 10;");
        c.due("a later agreement is the latest", later.beforehand(0, 10), NONE);
        WhatWasHers brought = Checks.lived(LAW + "come 0 brought 0 10;");
        c.due("the first way", brought.beforehand(0, 1), 1);
        WhatWasHers half = Checks.lived(LAW + "owes 0 2 1;");
        c.due("a half below 0 is less than 0", half.beforehand(0, -1), NONE);
    }

    // ---- promises 20 to 23

    private static final String KINDS = "law own own own own most sums stays 50;"
        + "law own both own own both sums all 50;law own own own own most sums all 50;"
        // 0 is OWN; 1 is FED; 2 is hers at first, then BOTH's; 3 is bought, CHANGED.
        + "come 0 brought 1 10;come 0 earned 0 20;put 0 1 2 5;come 0 given 0 30;buy 0 4 3 2;"
        + "agree 1 4 1;land 2 1;buy 3 1 0 0;agree 4 4 2;buy 5 0 0 9;put 6 5 0 3;";

    private static void kindIs(WhatWasHers x, int thing, int kind, int... kinds) {
        c.due("kind of " + thing, x.kind(thing), kind);
        for (int k = 0; k < 6; k++) {
            boolean is = false;
            for (int one : kinds) {
                is |= one == k;
            }
            c.due("thing " + thing + " as " + k, x.as(thing, k), is ? thing : Checks.KIND);
            c.due("status", x.status(), is ? 0 : 3);
        }
    }

    private static void kinds() {
        WhatWasHers x = Checks.lived(KINDS);
        kindIs(x, 0, 1, 0, 1);
        kindIs(x, 1, 3, 0, 1, 3);
        kindIs(x, 2, 2, 0, 2);
        kindIs(x, 3, 4, 0, 1, 3, 4);
        kindIs(x, 4, 3, 0, 1, 3);
        kindIs(x, 5, 5, 0, 2, 5);
        int[] wrong = {-1, 6, MIN, MAX};
        for (int w : wrong) {
            c.due("kind: no thing", x.kind(w), Checks.BAD);
            c.due("as: no thing", x.as(w, 0), Checks.BAD);
            c.due("as: no kind", x.as(0, w), Checks.BAD);
        }
        WhatWasHers own = Checks.lived(LAW + "come 0 given 0 1;put 0 0 0 1;");
        c.due("a put of its own purse feeds none", own.kind(0), 1);
        WhatWasHers back = Checks.lived("law own own own own most sums stays 50;"
            + "law both both both both both sums all 50;law own own own own most sums all 50;"
            + "come 0 given 0 1;put 0 0 1 1;land 1 1;land 2 2;");
        c.due("back where it was at first", back.kind(0), 3);
        WhatWasHers unfed = Checks.lived("law both both both both both sums stays 50;"
            + "law own own own own most sums all 50;come 0 given 0 1;land 2 1;");
        c.due("changed, but not fed", unfed.kind(0), 1);
    }

    private static void askIs(WhatWasHers x, int thing, int what, long answer, int... bodies) {
        String name = "ask " + thing + " " + what;
        c.due(name, x.ask(thing, what), answer);
        for (int i = 0; i < 16; i++) {
            c.due(name + ": trace " + i, x.trace(i), i < bodies.length ? bodies[i] : NONE);
        }
    }

    private static void asks() {
        WhatWasHers x = Checks.lived(KINDS);
        askIs(x, 0, 0, 10 + 0 + 10, 11, 10, 21, 20);
        askIs(x, 0, 1, 10, 21, 20);
        askIs(x, 1, 0, 25 + 1 - 1, 12, 11, 10, 21, 20);
        askIs(x, 1, 1, 1, 21, 20);
        askIs(x, 2, 0, 90, 14, 10);
        askIs(x, 2, 1, 2, 20);
        askIs(x, 3, 0, 2 * (9 + 113 - 3), 13, 12, 11, 10, 23, 21, 20);
        askIs(x, 3, 1, 113, 23, 21, 20);
        askIs(x, 5, 0, 36, 14, 10);
        askIs(x, 5, 1, 5 + 36, 22, 20, 14, 10);
        c.due("no such ask", x.ask(0, 2), Checks.BAD);
        c.due("no such ask below", x.ask(0, -1), Checks.BAD);
        c.due("no thing", x.ask(6, 0), Checks.BAD);
        c.due("no thing below", x.ask(-1, 0), Checks.BAD);
        c.due("the trace stays", x.trace(0), 22);
        c.due("trace -1", x.trace(-1), NONE);
        c.due("trace min", x.trace(MIN), NONE);
        c.due("trace max", x.trace(MAX), NONE);
        c.due("trace 16", x.trace(16), NONE);
        Checks.tell(x, LAW);
        x.life();
        c.due("no thing any more", x.ask(0, 0), Checks.BAD);
        c.due("the trace stays", x.trace(3), 10);
    }

    // ---- promises 24, 25

    private static void counts() {
        WhatWasHers x = Checks.lived(KINDS);
        x.row(0, 0, 0);
        x.row(7, 1, 9);
        x.row(7, 2, 3);
        Checks.tell(x, "abc");
        long[] want = {2, 3, 11, 6, 7, 3, 1};
        for (int what = 0; what < want.length; what++) {
            c.due("count " + what, x.count(what), want[what]);
        }
        x.drop(7);
        c.due("a row fewer", x.count(0), 1);
        c.due("count 7", x.count(7), Checks.BAD);
        c.due("count -1", x.count(-1), Checks.BAD);
        x.beside(0, 0, 0);
        x.hangs();
        x.beforehand(9999, 9999);
        c.due("the law at the end stays", x.count(6), 1);
    }

    private static void statuses() {
        WhatWasHers x = new WhatWasHers();
        c.due("none", x.status(), 0);
        x.drop(0);
        c.due("null", x.status(), 1);
        x.row(0, 0, 2);
        c.due("fine", x.status(), 0);
        x.set(0, 2, 0);
        c.due("place", x.status(), 2);
        x.set(8, 0, 0);
        c.due("bad leaves it", x.status(), 2);
        x.judge(0, 0);
        c.due("state leaves it", x.status(), 2);
        x.feed(0, 1);
        x.life();
        x.hangs();
        c.due("other calls leave it", x.status(), 2);
        x.set(0, 1, 0);
        c.due("set", x.status(), 0);
        x.row(1, 0, -1);
        c.due("size", x.status(), 4);
        x.row(1, 1, 2);
        x.copy(0, 0, 1, 0, 1);
        c.due("store", x.status(), 5);
        x.copy(0, 0, 0, 1, 1);
        c.due("copy", x.status(), 0);
        Checks.tell(x, LAW + "come 0 given 0 1;");
        x.life();
        x.as(0, 2);
        c.due("kind", x.status(), 3);
        x.as(1, 2);
        x.kind(0);
        x.ask(0, 0);
        c.due("kind still", x.status(), 3);
        x.judge(0, 0);
        c.due("judge", x.status(), 0);
        x.judge(0, 2);
        c.due("judge: place", x.status(), 2);
        x.as(0, 1);
        c.due("as", x.status(), 0);
        x.judge(2, 0);
        c.due("judge: null", x.status(), 1);
        x.set(0, 0, 7);
        x.judge(2, 0);
        x.judge(0, 0);
        c.due("judge: bad leaves it", x.status(), 1);
        x.drop(0);
        c.due("drop", x.status(), 0);
    }
}
