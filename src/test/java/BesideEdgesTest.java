/** Boundary cases of BESIDE, HANGS and BEFOREHAND: promises 17 to 19. */
public final class BesideEdgesTest {
    private static final int NONE = Checks.NONE;
    private static final int MIN = Checks.MIN;
    private static final int MAX = Checks.MAX;
    private static final String OWN = "law own own own own most sums stays 50;";
    private static final String HALVES = "law own own both own most sums stays 50;";
    private static final String SHORT = "law own own own own most sums all 0;";
    private static final String[] WAYS = {"brought", "given", "earned", "heired"};

    private static final Checks c = new Checks();

    public static void main(String[] args) {
        stateAheadOfBad();
        numbersOfBeside();
        daysOfBeside();
        landsOfThatDay();
        besideFallsAnew();
        besideOfFullAndEmpty();
        noSuchEvent();
        whichEvents();
        firstOfSeveral();
        cutEnds();
        eachEventHangs();
        wishes();
        wishesAreHeldExactly();
        everyAgreement();
        firstAgreement();
        agreementsOfTheLife();
        beforehandOfFullAndEmpty();
        upToTheLastCall();
        c.end();
    }

    private static void besideIs(WhatWasHers x, int law, int day, long above, long below) {
        String name = "beside " + law + ", " + day;
        c.due(name + ", above", x.beside(law, day, 0), above);
        c.due(name + ", below", x.beside(law, day, 1), below);
    }

    // ---- promise 17

    // "STATE: no LIFE (ahead of BAD)"
    private static void stateAheadOfBad() {
        WhatWasHers x = new WhatWasHers();
        int[] some = {MIN, -1, 0, 1, 3, 4, 999, 1000, MAX};
        for (int law : some) {
            for (int day : some) {
                for (int what : new int[] {MIN, -1, 0, 1, 2, MAX}) {
                    c.due("beside without a life", x.beside(law, day, what), Checks.STATE);
                }
            }
        }
    }

    private static void numbersOfBeside() {
        for (int laws = 1; laws <= 4; laws++) {
            WhatWasHers x = Checks.lived(OWN.repeat(laws) + "come 0 given 0 7;");
            for (int law = 0; law < laws; law++) {
                besideIs(x, law, 0, 7, 1);
                besideIs(x, law, 999, 7, 1);
                for (int no : Checks.outside(0, 999)) {
                    c.due("beside on day " + no, x.beside(law, no, 0), Checks.BAD);
                }
                for (int no : Checks.outside(0, 1)) {
                    c.due("beside, " + no, x.beside(law, 0, no), Checks.BAD);
                }
            }
            for (int no : Checks.outside(0, laws - 1)) {
                c.due("beside by law " + no + " of " + laws, x.beside(no, 0, 0), Checks.BAD);
            }
        }
    }

    // "from a DAY on (ahead of the first event of that DAY or a later one)"
    private static void daysOfBeside() {
        String laws = "law own own own own most sums stays 100;"
            + "law both both both both both sums stays 0;";
        // By law 1 what comes is lost to her; law 0 at the end would give her all of both's.
        WhatWasHers x = Checks.lived(laws + "come 0 given 0 1;come 0 given 0 2;come 1 given 0 4;"
            + "come 500 given 0 8;come 998 given 0 16;come 999 given 0 32;come 999 given 0 1;");
        besideIs(x, 0, 0, 64, 1);
        besideIs(x, 1, 0, 0, 1);
        besideIs(x, 1, 1, 3, 1);
        besideIs(x, 1, 2, 7, 1);
        besideIs(x, 1, 499, 7, 1);
        besideIs(x, 1, 500, 7, 1);
        besideIs(x, 1, 501, 15, 1);
        besideIs(x, 1, 997, 15, 1);
        besideIs(x, 1, 998, 15, 1);
        besideIs(x, 1, 999, 31, 1);
        WhatWasHers early = Checks.lived(laws + "come 0 given 0 1;come 998 given 0 2;");
        besideIs(early, 1, 998, 1, 1);
        besideIs(early, 1, 999, 3, 1);
    }

    private static void landsOfThatDay() {
        String laws = "law own own own own most sums stays 50;law own own own own most sums stays 0;"
            + "law own own own own most sums stays 100;";
        WhatWasHers x = Checks.lived(laws + "buy 0 0 0 8;land 5 0;owes 5 1 1;");
        c.due("as it is", x.end(0, 0), 4);
        besideIs(x, 1, 0, 4, 1);
        besideIs(x, 1, 5, 4, 1);
        besideIs(x, 1, 6, 0, 1);
        besideIs(x, 2, 6, 8, 1);
        besideIs(x, 2, 5, 4, 1);
    }

    private static void besideFallsAnew() {
        String laws = "law own own own own most sums stays 0;law both both both both both sums all 50;"
            + "law both both both both both sums stays 50;";
        WhatWasHers x = Checks.lived(laws + "come 0 given 0 10;agree 5 1 1;come 6 given 0 20;");
        c.due("as it is", x.end(0, 0), 10);
        besideIs(x, 2, 5, 10, 1);
        besideIs(x, 1, 0, 5, 1);
        // Ahead of the agreement of that day: by the law, so both's.
        besideIs(x, 1, 5, 5, 1);
        // Behind it: by the agreement, so his.
        besideIs(x, 1, 6, 0, 1);
        besideIs(x, 1, 999, 0, 1);
        c.due("whose it is stays", x.whose(0, 999), 0);
        c.due("the law at the end stays", x.count(6), 0);
        c.due("events stay", x.count(2), 3);
        c.due("her end stays", x.end(0, 0), 10);
    }

    private static void besideOfFullAndEmpty() {
        WhatWasHers empty = Checks.lived(SHORT);
        besideIs(empty, 0, 0, 0, 1);
        besideIs(empty, 0, 999, 0, 1);
        // 30 events are as many as a life has: the one more is only thought of.
        WhatWasHers full = Checks.lived(SHORT + "law own own own own most sums all 100;"
            + "owes 0 2 1;".repeat(29) + "owes 9 2 1;");
        besideIs(full, 0, 0, 0, 1);
        besideIs(full, 1, 0, -30, 1);
        besideIs(full, 1, 9, -30, 1);
        besideIs(full, 1, 10, -30, 1);
        WhatWasHers parts = Checks.lived("law own own own own most sums stays 0;"
            + "law own own own own most parts stays 0;come 0 given 0 10;put 0 0 1 30;");
        besideIs(parts, 1, 3, 160, 7);
        besideIs(parts, 0, 3, 10, 1);
    }

    // ---- promise 18

    private static void hangsOn(String text, long event) {
        WhatWasHers x = Checks.lived(text);
        long above = x.end(0, 0);
        c.due("hangs of " + text, x.hangs(), event);
        c.due("her end stays", x.end(0, 0), above);
    }

    // "NONE: there is no such event"; "STATE: no LIFE"
    private static void noSuchEvent() {
        WhatWasHers x = new WhatWasHers();
        c.due("hangs without a life", x.hangs(), Checks.STATE);
        Checks.tell(x, "law");
        x.life();
        c.due("hangs behind a fault", x.hangs(), Checks.STATE);
        hangsOn(OWN, NONE);
        hangsOn(OWN + "come 0 given 0 99;", NONE);
        hangsOn(OWN + "buy 0 99 0 0;", NONE);
        hangsOn(OWN + "land 0 0;", NONE);
        hangsOn(OWN + "come 0 given 0 99;buy 0 99 0 0;land 0 0;", NONE);
        hangsOn(SHORT + "land 0 0;".repeat(30), NONE);
    }

    // "of the events 'put', 'now', 'owes', 'agree'"
    private static void whichEvents() {
        String ahead = OWN + "come 0 given 0 9;buy 0 99 0 0;land 0 0;";
        hangsOn(ahead + "put 0 0 0 1;", 3);
        hangsOn(ahead + "now 0 0 9;", 3);
        hangsOn(ahead + "owes 0 1 1;", 3);
        hangsOn(ahead + "agree 0 0 0;", 3);
        hangsOn(OWN + "owes 0 1 1;come 0 given 0 99;", 0);
        hangsOn(OWN + "agree 0 1 1;come 0 given 0 50;owes 0 0 49;", 0);
        hangsOn(OWN + "agree 0 1 1;come 0 given 0 50;owes 0 0 51;", 2);
        hangsOn(OWN + "come 0 given 0 50;now 0 0 60;put 0 0 0 9;", 1);
        hangsOn(OWN + "come 0 given 0 50;now 0 0 60;put 0 0 0 11;", 2);
        hangsOn(SHORT + "owes 0 1 1;".repeat(29) + "owes 0 0 1;", 29);
    }

    // "of several the first"
    private static void firstOfSeveral() {
        hangsOn(OWN + "owes 0 0 5;owes 0 0 5;", 0);
        hangsOn(OWN + "owes 0 0 4;owes 0 0 5;owes 0 0 5;", 1);
        hangsOn(OWN + "owes 0 1 9;owes 0 1 99;", 0);
        hangsOn(OWN + "come 0 given 0 9;put 0 0 0 5;owes 0 0 5;", 1);
        hangsOn(OWN + "come 0 given 0 9;owes 0 0 5;put 0 0 0 5;", 1);
        hangsOn(OWN + "come 0 given 0 9;owes 0 0 5;put 0 0 0 6;", 2);
        hangsOn(SHORT + "owes 0 0 1;".repeat(30), 0);
    }

    // "her END, cut, is farthest from her END as it is, cut"
    private static void cutEnds() {
        // 3 by 2 is 1; without one debt 4 by 2, without the other 5 by 2: both 2, so the first.
        hangsOn(HALVES + "come 0 earned 0 6;owes 0 2 1;owes 0 2 2;", 1);
        // 1 by 2 is 0; without the debts 2 by 2 and 3 by 2, both 1.
        hangsOn(HALVES + "come 0 earned 0 4;owes 0 2 1;owes 0 2 2;", 1);
        // -1 by 2 is 0 (towards 0): without a debt 1 by 2, 0, too; without the put -3 by 2, -1.
        hangsOn(HALVES + "come 0 earned 0 1;owes 0 2 2;owes 0 2 2;put 0 0 2 2;", 3);
        // Without it 0; with it -1 by 2, 0, too: nothing is as far as 0 is.
        hangsOn(HALVES + "owes 0 2 1;", 0);
        hangsOn(HALVES + "owes 0 2 1;owes 0 2 1;owes 0 2 3;", 2);
    }

    /** Every event in turn is the one that it hangs on. */
    private static void eachEventHangs() {
        for (int at = 0; at < 30; at++) {
            StringBuilder text = new StringBuilder(SHORT);
            for (int e = 0; e < 30; e++) {
                text.append("owes 0 0 ").append(e == at ? 2 : 1).append(';');
            }
            hangsOn(text.toString(), at);
        }
    }

    // ---- promise 19

    // "wishes of hers and his (-9999 to 9999)"; "BAD; STATE: no LIFE"
    private static void wishes() {
        WhatWasHers none = new WhatWasHers();
        WhatWasHers x = Checks.lived(OWN + "come 0 given 0 9;");
        for (int no : Checks.outside(-9999, 9999)) {
            for (int may : new int[] {-9999, 0, 9999}) {
                c.due("hers " + no, x.beforehand(no, may), Checks.BAD);
                c.due("his " + no, x.beforehand(may, no), Checks.BAD);
                c.due("hers without a life " + no, none.beforehand(no, may), Checks.BAD);
                c.due("his without a life " + no, none.beforehand(may, no), Checks.BAD);
            }
            c.due("both " + no, x.beforehand(no, no), Checks.BAD);
        }
        for (int may : new int[] {-9999, -1, 0, 1, 9999}) {
            c.due("without a life", none.beforehand(may, -may), Checks.STATE);
        }
        c.due("least wishes", x.beforehand(-9999, -9999), 15);
        c.due("her greatest wish", x.beforehand(9999, -9999), NONE);
        c.due("his greatest wish", x.beforehand(-9999, 9999), NONE);
        c.due("greatest wishes", x.beforehand(9999, 9999), NONE);
    }

    // "she and he have told wishes at least"
    private static void wishesAreHeldExactly() {
        WhatWasHers x = Checks.lived(OWN + "come 0 given 0 9;come 0 heired 1 4;");
        c.due("just as wished", x.beforehand(9, 4), 15);
        c.due("less wished", x.beforehand(8, 3), 15);
        c.due("hers a little more", x.beforehand(10, 3), NONE);
        c.due("his a little more", x.beforehand(9, 5), NONE);
        c.due("all hers", x.beforehand(13, 0), 9);
        c.due("more than all", x.beforehand(14, 0), NONE);
        c.due("all hers, but for one", x.beforehand(13, 1), NONE);
        // Ends of 5 by 2 each: 2 is there, 3 is not.
        WhatWasHers half = Checks.lived(HALVES + "come 0 earned 0 5;");
        c.due("two", half.beforehand(2, 2), 15);
        c.due("three of hers", half.beforehand(3, 0), 6);
        c.due("three of his", half.beforehand(0, 3), 7);
        // Ends of -5 by 2 each: -3 is there, -2 is not.
        WhatWasHers below = Checks.lived(HALVES + "owes 0 2 5;");
        c.due("three below", below.beforehand(-3, -3), 15);
        c.due("two below of hers", below.beforehand(-2, -3), NONE);
        c.due("two below of his", below.beforehand(-3, -2), NONE);
    }

    private static String come(int way, int who) {
        return OWN + "come 0 " + WAYS[way] + " " + who + " 10;";
    }

    // "3 times the WAY, and the PURSE": each of the fifteen
    private static void everyAgreement() {
        for (int way = 0; way < 4; way++) {
            c.due("to her", Checks.lived(come(way, 1)).beforehand(10, 0), 3 * way);
            c.due("to him", Checks.lived(come(way, 0)).beforehand(0, 10), 3 * way + 1);
            c.due("to both", Checks.lived(come(way, 0)).beforehand(5, 5), 3 * way + 2);
            c.due("to both, his", Checks.lived(come(way, 1)).beforehand(5, 5), 3 * way + 2);
        }
        // By 'less' what grew stays where it is: 10 of 20 are owed to who paid.
        String less = "law own own own own most less stays 50;";
        WhatWasHers his = Checks.lived(less + "buy 0 0 10 0;now 1 0 20;");
        c.due("bought, to her", his.beforehand(10, 10), 12);
        c.due("bought, to both", his.beforehand(5, 15), 14);
        WhatWasHers hers = Checks.lived(less + "buy 0 10 0 0;now 1 0 20;");
        c.due("bought, to him", hers.beforehand(10, 10), 13);
        c.due("bought, so without any", hers.beforehand(20, 0), 15);
        c.due("bought, no such one", hers.beforehand(20, 1), NONE);
    }

    // "the first, by WAYS, then PURSES"; "15, if it is so without any"
    private static void firstAgreement() {
        String each = OWN + "come 0 brought 1 10;come 0 given 1 10;come 0 earned 1 10;"
            + "come 0 heired 1 10;";
        WhatWasHers x = Checks.lived(each);
        c.due("so without any, though by others, too", x.beforehand(0, 0), 15);
        c.due("the first way", x.beforehand(10, 30), 0);
        c.due("the first purse", x.beforehand(1, 0), 0);
        c.due("the third purse of the first way", x.beforehand(5, 35), 2);
        c.due("no one of them", x.beforehand(11, 0), NONE);
        WhatWasHers one = Checks.lived(OWN + "come 0 brought 0 10;come 0 given 1 10;"
            + "come 0 heired 1 20;");
        c.due("the second way", one.beforehand(20, 0), 3);
        c.due("the fourth way", one.beforehand(21, 0), 9);
        c.due("all his, by the first way", one.beforehand(0, 40), 1);
        c.due("more his than by both", one.beforehand(0, 36), 1);
    }

    private static void agreementsOfTheLife() {
        WhatWasHers x = Checks.lived(OWN + "come 0 given 1 10;agree 1 1 1;come 2 given 1 20;");
        c.due("behind all but what was agreed later", x.beforehand(10, 20), 3);
        c.due("what was agreed later stays", x.beforehand(11, 0), NONE);
        WhatWasHers ahead = Checks.lived(OWN + "agree 0 1 1;come 0 given 1 10;");
        c.due("an agreement of the first event is later", ahead.beforehand(10, 0), NONE);
        // A land that changes all holds to what was agreed ahead.
        WhatWasHers moved = Checks.lived("law own own own own most sums all 50;come 0 given 1 10;"
            + "land 5 0;");
        c.due("through a land", moved.beforehand(10, 0), 3);
        c.due("things stay as they are", moved.thing(0, 1), 2);
    }

    private static void beforehandOfFullAndEmpty() {
        WhatWasHers empty = Checks.lived(OWN);
        c.due("nothing wished of nothing", empty.beforehand(0, 0), 15);
        c.due("one of nothing", empty.beforehand(1, 0), NONE);
        c.due("one of nothing, his", empty.beforehand(0, 1), NONE);
        // 30 events are as many as a life has: the agreement is only thought of.
        WhatWasHers full = Checks.lived(SHORT + "come 0 heired 1 99;" + "owes 0 1 1;".repeat(29));
        c.due("thirty events", full.count(2), 30);
        c.due("all hers", full.beforehand(99, -29), 9);
        c.due("more than there is", full.beforehand(99, -28), NONE);
        c.due("as it is", full.beforehand(0, 70), 15);
        WhatWasHers great = Checks.lived("law own own own own most sums all 0;"
            + "buy 0 99 99 99;".repeat(10) + "now 0 9 99;put 0 9 0 99;");
        c.due("greatest life", great.beforehand(9999, -9999), NONE);
    }

    // "An object is used for at most 512 calls after it has been made"
    private static void upToTheLastCall() {
        String text = SHORT + "come 0 heired 1 99;come 0 given 0 5;" + "owes 0 1 1;".repeat(28);
        WhatWasHers x = Checks.lived(text);
        int calls = (text.length() + 7) / 8 + 1;
        while (calls < 508) {
            c.due("hangs, call " + calls, x.hangs(), 2);
            c.due("beforehand, call " + calls, x.beforehand(104, -28), 9);
            c.due("beside, call " + calls, x.beside(0, 0, 0), 5);
            c.due("ask, call " + calls, x.ask(0, 0), 99 + 10);
            calls += 4;
        }
        c.due("her end, at last", x.end(0, 0), 5);
        c.due("his end, at last", x.end(1, 0), 99 - 28);
    }
}
