/** Boundary cases of how a LIFE goes: promises 9 to 13 and the part marked 2. */
public final class LifeEdgesTest {
    private static final int NONE = Checks.NONE;
    private static final int MIN = Checks.MIN;
    private static final int MAX = Checks.MAX;
    private static final String OWN = "law own own own own most sums stays 50;";
    private static final String ALL_BOTH = "law both both both both both sums all 50;";
    private static final String ALL_OWN = "law own own own own most sums all 50;";
    private static final String[] WAYS = {"brought", "given", "earned", "heired"};

    private static final Checks c = new Checks();

    public static void main(String[] args) {
        whoseNumbers();
        whoseDays();
        whoseOnOneDay();
        thingNumbers();
        fullLife();
        places();
        mostPaid();
        agreements();
        latestAgreement();
        lands();
        reasons();
        worths();
        numbersOfPuts();
        judgeNumbers();
        judgeItems();
        judgeOrder();
        emptyLife();
        purseNumbers();
        cameAndHas();
        debts();
        fedNumbers();
        fedAtTheEnd();
        c.end();
    }

    private static void thingIs(WhatWasHers x, int thing, int... told) {
        for (int what = 0; what < told.length; what++) {
            c.due("thing " + thing + ", " + what, x.thing(thing, what), told[what]);
        }
    }

    private static void pursesAre(String text, int... purses) {
        WhatWasHers x = Checks.lived(text);
        c.due("things of " + text, x.count(3), purses.length);
        for (int t = 0; t < purses.length; t++) {
            c.due("purse of " + t + " by " + text, x.thing(t, 0), purses[t]);
        }
    }

    // ---- promise 9: "behind the events of all DAYS up to one (0 to 999)"

    private static void whoseNumbers() {
        for (int things : new int[] {0, 1, 9, 10}) {
            WhatWasHers x = Checks.lived(OWN + "buy 0 0 1 0;".repeat(things));
            for (int t = 0; t < things; t++) {
                c.due("whose " + t, x.whose(t, 0), 1);
                for (int no : Checks.outside(0, 999)) {
                    c.due("whose on day " + no, x.whose(t, no), Checks.BAD);
                }
            }
            for (int no : Checks.outside(0, things - 1)) {
                c.due("whose " + no + " of " + things, x.whose(no, 0), Checks.BAD);
            }
        }
        WhatWasHers none = new WhatWasHers();
        for (int t : new int[] {-1, 0, 9, MIN, MAX}) {
            c.due("whose without a life", none.whose(t, 0), Checks.BAD);
        }
    }

    private static void whoseDays() {
        WhatWasHers x = Checks.lived(OWN + ALL_BOTH + ALL_OWN + "come 0 given 1 1;land 1 1;"
            + "come 998 given 0 1;land 998 2;come 999 given 0 1;land 999 1;");
        c.due("the first day", x.whose(0, 0), 1);
        c.due("behind a land", x.whose(0, 1), 2);
        c.due("days later", x.whose(0, 997), 2);
        c.due("the last but one", x.whose(0, 998), 1);
        c.due("the last day", x.whose(0, 999), 2);
        c.due("not there yet", x.whose(1, 0), NONE);
        c.due("not there the day ahead", x.whose(1, 997), NONE);
        c.due("there on its day", x.whose(1, 998), 0);
        c.due("not there on the last day but one", x.whose(2, 998), NONE);
        c.due("there on the last day", x.whose(2, 999), 2);
        c.due("as at the end", x.thing(2, 0), 2);
        WhatWasHers early = Checks.lived(OWN + ALL_BOTH + "come 0 given 1 1;land 1 1;");
        c.due("day 0 alone", early.whose(0, 0), 1);
    }

    private static void whoseOnOneDay() {
        WhatWasHers x = Checks.lived(OWN + ALL_BOTH + ALL_OWN
            + "come 5 given 0 1;land 5 1;land 5 2;land 5 1;agree 6 1 1;land 6 2;come 6 given 0 1;");
        c.due("ahead of that day", x.whose(0, 4), NONE);
        c.due("behind all events of that day", x.whose(0, 5), 2);
        c.due("by the agreement", x.whose(0, 6), 1);
        c.due("an agreement of that day", x.whose(1, 6), 1);
        WhatWasHers late = Checks.lived(OWN + "come 5 given 0 1;agree 5 1 1;");
        c.due("an agreement behind it changes nothing", late.whose(0, 999), 0);
    }

    // ---- promise 10

    private static void thingNumbers() {
        WhatWasHers none = new WhatWasHers();
        for (int what = -1; what <= 7; what++) {
            c.due("thing without a life", none.thing(0, what), Checks.BAD);
        }
        for (int things : new int[] {0, 1, 9, 10}) {
            WhatWasHers x = Checks.lived(OWN + "buy 7 0 0 3;".repeat(things));
            for (int t = 0; t < things; t++) {
                thingIs(x, t, 2, 0, t, t, 3, 1, 4);
                for (int no : Checks.outside(0, 6)) {
                    c.due("thing " + t + ", " + no, x.thing(t, no), Checks.BAD);
                }
            }
            for (int no : Checks.outside(0, things - 1)) {
                c.due("thing " + no + " of " + things, x.thing(no, 0), Checks.BAD);
                c.due("no thing, no such what", x.thing(no, 7), Checks.BAD);
            }
        }
    }

    /** 30 events, 10 THINGS, 50 PUTS: as many as there is room for. */
    private static void fullLife() {
        WhatWasHers x = Checks.lived("law own own own own most sums all 0;"
            + "buy 0 99 99 99;".repeat(10) + "put 0 9 1 99;".repeat(20));
        c.due("events", x.count(2), 30);
        c.due("things", x.count(3), 10);
        c.due("puts", x.count(4), 50);
        for (int t = 0; t < 9; t++) {
            thingIs(x, t, 0, 0, t, t, 297, 3, 4);
        }
        thingIs(x, 9, 0, 0, 9, 9, 297 + 20 * 99, 23, 4);
        c.due("came", x.purse(0, 1), 10 * 297 + 20 * 99);
        c.due("fed", x.fed(1, 0), 10 * 99 + 20 * 99);
        c.due("fed", x.fed(2, 0), 10 * 99);
        WhatWasHers last = Checks.lived("law own own own own most sums all 0;"
            + "owes 0 0 1;".repeat(28) + "come 0 given 0 1;land 0 0;");
        thingIs(last, 0, 0, 2, 28, 29, 1, 0, 1);
        WhatWasHers very = Checks.lived("law own own own own most sums all 0;"
            + "owes 0 0 1;".repeat(29) + "come 999 heired 1 99;");
        thingIs(very, 0, 1, 0, 29, 29, 99, 0, 3);
        c.due("the last event's day", very.whose(0, 998), NONE);
        c.due("the last event's day", very.whose(0, 999), 1);
    }

    // ---- part 2: "A THING FALLS into a PURSE"

    // "come: WHO's PURSE, or BOTH", each WAY by its own place of the LAW
    private static void places() {
        for (int mask = 0; mask < 16; mask++) {
            StringBuilder text = new StringBuilder("law");
            for (int way = 0; way < 4; way++) {
                text.append((mask >> way & 1) == 0 ? " own" : " both");
            }
            text.append(" most sums stays 50;");
            int[] purses = new int[8];
            for (int way = 0; way < 4; way++) {
                for (int who = 0; who < 2; who++) {
                    text.append("come 0 ").append(WAYS[way]).append(' ').append(who).append(" 1;");
                    purses[2 * way + who] = (mask >> way & 1) == 0 ? who : 2;
                }
            }
            pursesAre(text.toString(), purses);
        }
    }

    // "most: the PURSE that paid most, of several the least; both: BOTH, if two PURSES or more paid"
    private static void mostPaid() {
        int[] sums = {0, 1, 2, 98, 99};
        for (int a : sums) {
            for (int b : sums) {
                for (int d : sums) {
                    if (a + b + d == 0) {
                        continue;
                    }
                    String buy = "buy 0 " + a + " " + b + " " + d + ";";
                    int greatest = Math.max(a, Math.max(b, d));
                    int most = a == greatest ? 0 : b == greatest ? 1 : 2;
                    int paid = (a > 0 ? 1 : 0) + (b > 0 ? 1 : 0) + (d > 0 ? 1 : 0);
                    pursesAre(OWN + buy, most);
                    pursesAre("law own own own own both sums stays 50;" + buy, paid > 1 ? 2 : most);
                    WhatWasHers x = Checks.lived(OWN + buy);
                    c.due("puts of " + buy, x.thing(0, 5), paid);
                    c.due("worth of " + buy, x.thing(0, 4), a + b + d);
                }
            }
        }
    }

    // "by the latest AGREEMENT for its WAY, if there is one"
    private static void agreements() {
        for (int way = 0; way < 5; way++) {
            for (int purse = 0; purse < 3; purse++) {
                String agree = "agree 0 " + way + " " + purse + ";";
                StringBuilder text = new StringBuilder(OWN + agree);
                int[] purses = {1, 1, 1, 1, 1};
                for (String name : WAYS) {
                    text.append("come 0 ").append(name).append(" 1 1;");
                }
                text.append("buy 0 1 2 1;");
                purses[way] = purse;
                pursesAre(text.toString(), purses);
                WhatWasHers x = Checks.lived(text.toString());
                for (int t = 0; t < 5; t++) {
                    c.due("reason of " + t + " by " + agree, x.thing(t, 1), t == way ? 1 : 0);
                    c.due("way of " + t, x.thing(t, 6), t);
                }
            }
        }
    }

    private static void latestAgreement() {
        pursesAre(OWN + "agree 0 1 2;agree 0 1 1;come 0 given 0 1;", 1);
        pursesAre(OWN + "agree 0 1 1;agree 0 1 2;come 0 given 0 1;", 2);
        pursesAre(OWN + "agree 0 1 1;agree 0 1 0;come 0 given 1 1;", 0);
        pursesAre(OWN + "come 0 given 0 1;agree 0 1 1;come 0 given 0 1;agree 0 1 2;"
            + "come 0 given 0 1;", 0, 1, 2);
        pursesAre(OWN + ALL_BOTH + "agree 0 1 1;land 0 1;come 0 given 0 1;come 0 heired 0 1;", 1, 2);
        pursesAre(ALL_OWN + "agree 0 4 2;buy 0 5 0 0;agree 1 4 1;land 2 0;", 1);
    }

    // "land: from then on that LAW; if its move is 'all', all THINGS that there are FALL anew"
    private static void lands() {
        String ahead = "come 0 given 0 1;buy 0 1 0 2;";
        pursesAre(OWN + ALL_BOTH + ahead + "land 0 1;" + ahead, 2, 2, 2, 2);
        pursesAre(OWN + "law both both both both both sums stays 50;" + ahead + "land 0 1;" + ahead,
            0, 2, 2, 2);
        pursesAre(ALL_BOTH + OWN + ahead + "land 0 1;" + ahead, 2, 2, 0, 2);
        pursesAre(ALL_BOTH + ALL_OWN + ahead + "land 0 1;" + ahead, 0, 2, 0, 2);
        // A PUT is nothing that was paid for it.
        pursesAre(ALL_OWN + "buy 0 3 2 0;put 0 0 1 99;land 1 0;", 0);
        pursesAre("law own own own own both sums all 50;buy 0 3 0 0;put 0 0 1 99;land 1 0;", 0);
        pursesAre(OWN + ALL_BOTH + "land 0 1;land 0 0;come 0 given 1 1;", 1);
        WhatWasHers x = Checks.lived(OWN.repeat(4) + "land 0 3;land 1 2;");
        c.due("the law at the end", x.count(6), 2);
        WhatWasHers none = Checks.lived(OWN + ALL_BOTH + "land 0 1;");
        c.due("no things to fall", none.count(3), 0);
        c.due("the law at the end", none.count(6), 1);
        // Nine THINGS, and ten, as many as there is room for, all FALL; one that comes later does not.
        pursesAre(OWN + ALL_BOTH + "buy 0 2 1 0;".repeat(9) + "land 5 1;land 6 0;buy 6 2 1 0;",
            2, 2, 2, 2, 2, 2, 2, 2, 2, 0);
        String ten = OWN + ALL_BOTH + "buy 0 2 1 0;".repeat(10) + "land 5 1;";
        pursesAre(ten, 2, 2, 2, 2, 2, 2, 2, 2, 2, 2);
        WhatWasHers full = Checks.lived(ten);
        thingIs(full, 9, 2, 2, 9, 10, 3, 2, 4);
        c.due("the last thing ahead of the land", full.whose(9, 4), 0);
        c.due("the last thing behind it", full.whose(9, 5), 2);
    }

    // "REASON: 0 by the LAW, 1 by an AGREEMENT, 2 by a LAND that changed all"
    private static void reasons() {
        String laws = OWN + ALL_OWN;
        thingIs(Checks.lived(ALL_OWN + "come 0 given 0 1;"), 0, 0, 0, 0, 0);
        thingIs(Checks.lived(laws + "come 0 given 0 1;land 1 0;"), 0, 0, 0, 0, 0);
        thingIs(Checks.lived(laws + "come 0 given 0 1;land 1 1;"), 0, 0, 2, 0, 1);
        thingIs(Checks.lived(laws + "come 0 given 0 1;land 1 1;land 2 0;"), 0, 0, 2, 0, 1);
        thingIs(Checks.lived(laws + "come 0 given 0 1;land 1 1;land 1 1;"), 0, 0, 2, 0, 2);
        thingIs(Checks.lived(laws + "land 0 1;come 0 given 0 1;"), 0, 0, 0, 1, 1);
        thingIs(Checks.lived(laws + "agree 0 1 0;come 0 given 0 1;"), 0, 0, 1, 1, 1);
        thingIs(Checks.lived(laws + "agree 0 1 0;come 0 given 0 1;land 1 1;"), 0, 0, 1, 1, 2);
        thingIs(Checks.lived(laws + "come 0 given 0 1;agree 0 1 0;land 1 1;"), 0, 0, 1, 0, 2);
        thingIs(Checks.lived(laws + "come 0 given 0 1;agree 0 1 0;land 1 0;"), 0, 0, 0, 0, 0);
        thingIs(Checks.lived(laws + "come 0 given 0 1;agree 0 2 0;land 1 1;"), 0, 0, 2, 0, 2);
        thingIs(Checks.lived(laws + "come 0 given 0 1;land 1 1;agree 1 1 2;"), 0, 0, 2, 0, 1);
        thingIs(Checks.lived(laws + "buy 0 1 0 0;land 1 1;buy 1 1 0 0;"), 1, 0, 0, 2, 2);
    }

    private static void worthIs(String events, int worth) {
        c.due("worth by " + events, Checks.lived(OWN + events).thing(0, 4), worth);
    }

    // "(the THING's WORTH is so much more then, too)"; "now: the WORTH is so"
    private static void worths() {
        worthIs("come 0 given 0 1;", 1);
        worthIs("come 0 given 0 99;", 99);
        worthIs("come 0 given 0 99;put 0 0 0 99;", 198);
        worthIs("come 0 given 0 99;now 0 0 0;", 0);
        worthIs("come 0 given 0 1;now 0 0 99;", 99);
        worthIs("come 0 given 0 1;put 0 0 1 5;now 0 0 3;", 3);
        worthIs("come 0 given 0 1;now 0 0 3;put 0 0 1 5;", 8);
        worthIs("come 0 given 0 1;now 0 0 0;put 0 0 2 1;", 1);
        worthIs("buy 0 99 99 99;", 297);
        worthIs("buy 0 0 0 1;", 1);
        worthIs("buy 0 99 99 99;now 0 0 0;", 0);
        worthIs("come 0 given 0 7;come 0 given 0 1;put 0 1 0 9;now 0 1 5;", 7);
        WhatWasHers x = Checks.lived("law own own own own most sums all 0;come 0 given 0 99;"
            + "put 0 0 0 99;".repeat(29));
        thingIs(x, 0, 0, 0, 0, 0, 30 * 99, 29, 1);
        c.due("puts", x.count(4), 29);
        c.due("came, its own puts, too", x.purse(0, 1), 30 * 99);
    }

    private static void numbersOfPuts() {
        WhatWasHers x = Checks.lived(OWN + "come 0 given 0 1;buy 0 1 0 0;buy 0 0 1 1;buy 0 1 1 1;"
            + "put 0 0 0 1;put 0 2 0 1;put 0 2 0 1;");
        int[] puts = {1, 1, 4, 3};
        for (int t = 0; t < puts.length; t++) {
            c.due("puts of " + t, x.thing(t, 5), puts[t]);
        }
        c.due("all puts", x.count(4), 9);
    }

    // ---- promise 11

    private static final String TEN = "law own own own own most sums all 0;"
        + "buy 0 1 0 0;buy 0 0 1 0;buy 0 0 0 1;buy 0 0 1 0;buy 0 1 0 0;"
        + "buy 0 0 0 1;buy 0 0 1 0;buy 0 1 0 0;buy 0 0 0 1;buy 0 0 1 0;";
    private static final int[] TEN_PURSES = {0, 1, 2, 1, 0, 2, 1, 0, 2, 1};

    private static void fill(WhatWasHers x, int row, int from, int... items) {
        for (int k = 0; k < items.length; k++) {
            x.set(row, from + k, items[k]);
        }
    }

    // "as many ITEMS of a ROW from i on as there are THINGS"; "PLACE"
    private static void judgeNumbers() {
        WhatWasHers x = Checks.lived(TEN);
        x.row(0, 0, 40);
        fill(x, 0, 0, TEN_PURSES);
        fill(x, 0, 30, TEN_PURSES);
        c.due("from the first on", x.judge(0, 0), NONE);
        c.due("up to the last", x.judge(0, 30), NONE);
        c.due("its status", x.status(), 0);
        for (int no : new int[] {31, 39, 40, 41, -1, -10, MIN, MIN + 10, MAX, MAX - 9}) {
            c.due("from " + no, x.judge(0, no), Checks.PLACE);
            c.due("its status", x.status(), 2);
        }
        for (int size : new int[] {0, 1, 9, 10, 11}) {
            x.row(1, 2, size);
            c.due("a row of " + size, x.judge(1, 0), size < 10 ? Checks.PLACE : 1);
            c.due("a row of " + size + " from 1 on", x.judge(1, 1), size < 11 ? Checks.PLACE : 1);
        }
    }

    // "The first THING that is not in the PURSE that a row tells"; "BAD: an ITEM"
    private static void judgeItems() {
        for (int t = 0; t < 10; t++) {
            WhatWasHers x = Checks.lived(TEN);
            x.row(0, 2, 12);
            fill(x, 0, 1, TEN_PURSES);
            x.set(0, 0, 7);
            x.set(0, 11, -7);
            c.due("items beside them do not tell", x.judge(0, 1), NONE);
            for (int purse = 0; purse < 3; purse++) {
                x.set(0, 1 + t, purse);
                c.due("thing " + t + " told as " + purse, x.judge(0, 1),
                    purse == TEN_PURSES[t] ? NONE : t);
            }
            x.set(0, 1 + t, (TEN_PURSES[t] + 1) % 3);
            x.set(0, 10, 0);
            c.due("the first of two", x.judge(0, 1), t);
            for (int no : new int[] {-1, 3, 256, 65536, MIN, MAX}) {
                x.set(0, 1 + t, no);
                c.due("thing " + t + " told as " + no, x.judge(0, 1), Checks.BAD);
            }
            x.set(0, 1 + t, TEN_PURSES[t]);
            c.due("its status by a call that was not BAD", x.status(), 0);
        }
        WhatWasHers x = Checks.lived(TEN);
        x.row(0, 0, 10);
        x.set(0, 9, 3);
        c.due("BAD behind a wrong one", x.judge(0, 0), Checks.BAD);
    }

    // "BAD: ROW; STATE: no LIFE; NULL; PLACE; then BAD: an ITEM"
    private static void judgeOrder() {
        WhatWasHers none = new WhatWasHers();
        for (int no : Checks.outside(0, 7)) {
            c.due("no row ahead of no life", none.judge(no, -1), Checks.BAD);
        }
        c.due("no life ahead of missing", none.judge(0, -1), Checks.STATE);
        none.row(0, 0, 1);
        none.set(0, 0, 9);
        c.due("no life ahead of place", none.judge(0, -1), Checks.STATE);
        c.due("no life ahead of an item", none.judge(0, 0), Checks.STATE);
        c.due("its status", none.status(), 0);
        Checks.live(none, OWN + "come 0 given 0 1;");
        c.due("missing ahead of place", none.judge(1, -1), Checks.NULL);
        c.due("place ahead of an item", none.judge(0, 1), Checks.PLACE);
        c.due("its status", none.status(), 2);
        c.due("an item", none.judge(0, 0), Checks.BAD);
        c.due("that leaves the status", none.status(), 2);
    }

    // ---- an empty LIFE

    private static void emptyLife() {
        WhatWasHers x = Checks.lived(OWN);
        c.due("judge: missing", x.judge(0, 0), Checks.NULL);
        for (int size : new int[] {0, 1, 40}) {
            x.row(0, 0, size);
            c.due("no things: all are", x.judge(0, 0), NONE);
            c.due("no things, at the end of a row", x.judge(0, size), NONE);
            c.due("no things, behind the end", x.judge(0, size + 1), Checks.PLACE);
            c.due("no things, ahead of a row", x.judge(0, -1), Checks.PLACE);
        }
        x.row(0, 0, 1);
        x.set(0, 0, 9);
        c.due("no item is looked at", x.judge(0, 0), NONE);
        c.due("no thing", x.thing(0, 0), Checks.BAD);
        c.due("no thing", x.whose(0, 0), Checks.BAD);
        for (int p = 0; p < 3; p++) {
            for (int what = 0; what < 4; what++) {
                c.due("purse of an empty life", x.purse(p, what), 0);
            }
            for (int q = 0; q < 3; q++) {
                c.due("fed of an empty life", x.fed(p, q), p == q ? Checks.BAD : 0);
            }
        }
    }

    // ---- promises 12, 13

    private static void purseNumbers() {
        WhatWasHers[] some = {new WhatWasHers(), Checks.lived(OWN), Checks.lived(TEN)};
        for (WhatWasHers x : some) {
            for (int no : Checks.outside(0, 2)) {
                c.due("purse " + no, x.purse(no, 0), Checks.BAD);
                c.due("no purse, no such what", x.purse(no, 4), Checks.BAD);
            }
            for (int no : Checks.outside(0, 3)) {
                for (int p = 0; p < 3; p++) {
                    c.due("purse " + p + ", " + no, x.purse(p, no), Checks.BAD);
                }
            }
        }
        for (int p = 0; p < 3; p++) {
            for (int what = 0; what < 4; what++) {
                c.due("purse without a life", some[0].purse(p, what), 0);
            }
        }
        c.due("things in hers", some[2].purse(0, 3), 3);
        c.due("things in his", some[2].purse(1, 3), 4);
        c.due("things in both's", some[2].purse(2, 3), 3);
    }

    private static void purseIs(WhatWasHers x, int purse, int... told) {
        for (int what = 0; what < told.length; what++) {
            c.due("purse " + purse + ", " + what, x.purse(purse, what), told[what]);
        }
    }

    // "CAME .. WORTHS at their 'come', and all PUTS into them"; "HAS: WORTHS .. less its DEBTS"
    private static void cameAndHas() {
        WhatWasHers x = Checks.lived(OWN + ALL_BOTH + "come 0 given 0 10;put 1 0 0 4;put 1 0 1 5;"
            + "now 2 0 1;come 3 given 1 6;buy 4 0 7 8;owes 5 0 2;");
        purseIs(x, 0, 1 - 2, 10 + 4 + 5, 2, 1);
        purseIs(x, 1, 6, 6, 0, 1);
        purseIs(x, 2, 15, 15, 0, 1);
        Checks.live(x, OWN + ALL_BOTH + "come 0 given 0 10;put 1 0 0 4;now 2 0 1;land 3 1;"
            + "owes 5 0 2;");
        purseIs(x, 0, -2, 0, 2, 0);
        purseIs(x, 2, 1, 14, 0, 1);
    }

    // "owes: a DEBT of a PURSE"; "its DEBTS (of all days)"
    private static void debts() {
        WhatWasHers x = Checks.lived("law own own own own most sums all 0;owes 0 0 1;owes 0 1 99;"
            + "owes 500 0 99;owes 999 0 1;owes 999 2 2;");
        purseIs(x, 0, -101, 0, 101, 0);
        purseIs(x, 1, -99, 0, 99, 0);
        purseIs(x, 2, -2, 0, 2, 0);
        WhatWasHers most = Checks.lived("law own own own own most sums all 0;"
            + "owes 0 1 99;".repeat(30));
        purseIs(most, 0, 0, 0, 0, 0);
        purseIs(most, 1, -2970, 0, 2970, 0);
    }

    private static void fedNumbers() {
        WhatWasHers[] some = {new WhatWasHers(), Checks.lived(OWN), Checks.lived(TEN)};
        for (WhatWasHers x : some) {
            for (int p = 0; p < 3; p++) {
                for (int q = 0; q < 3; q++) {
                    c.due("fed " + p + " " + q, x.fed(p, q), p == q ? Checks.BAD : 0);
                }
                for (int no : Checks.outside(0, 2)) {
                    c.due("fed " + p + " " + no, x.fed(p, no), Checks.BAD);
                    c.due("fed " + no + " " + p, x.fed(no, p), Checks.BAD);
                    c.due("fed " + no + " " + no, x.fed(no, no), Checks.BAD);
                }
            }
        }
    }

    // "FED p into q (unlike): all PUTS of p into THINGS that are q's at the end, added"
    private static void fedAtTheEnd() {
        String puts = "come 0 given 0 1;come 0 given 1 1;put 0 0 0 1;put 0 0 1 2;put 0 0 2 4;"
            + "put 0 1 0 8;put 0 1 1 16;put 0 1 2 32;buy 0 64 0 63;";
        fedIs(Checks.lived(OWN + puts), 8, 0, 2, 0, 4 + 63, 32);
        fedIs(Checks.lived(OWN + ALL_BOTH + puts + "land 9 1;"), 0, 1 + 8 + 64, 0, 2 + 16, 0, 0);
        fedIs(Checks.lived(OWN + ALL_BOTH + puts + "land 9 1;put 9 0 1 10;"),
            0, 1 + 8 + 64, 0, 2 + 16 + 10, 0, 0);
        fedIs(Checks.lived(OWN + "agree 0 4 1;buy 0 99 99 99;"), 99, 0, 0, 0, 0, 99);
    }

    /** In order: 0 into 1, 0 into 2, 1 into 0, 1 into 2, 2 into 0, 2 into 1. */
    private static void fedIs(WhatWasHers x, int... sums) {
        int k = 0;
        for (int p = 0; p < 3; p++) {
            for (int q = 0; q < 3; q++) {
                if (p != q) {
                    c.due("fed " + p + " into " + q, x.fed(p, q), sums[k]);
                    k++;
                }
            }
        }
    }
}
