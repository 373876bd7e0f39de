/** Boundary cases of what is owed: promises 14 to 16 and the first half of the part marked 3. */
public final class OwedEdgesTest {
    private static final String[] OWES = {"sums", "parts", "worth", "less", "more"};

    private static final Checks c = new Checks();

    public static void main(String[] args) {
        numbers();
        badAheadOfState();
        emptyLife();
        bySums();
        byWorth();
        eachPutByItself();
        cutByItself();
        weights();
        byTheLawAtTheEnd();
        nothingCame();
        parts();
        roundAndRound();
        belowNothing();
        nought();
        hundredths();
        lowestTerms();
        greatest();
        c.end();
    }

    private static String law(String owe, int hundredths) {
        return "law own own both own most " + owe + " stays " + hundredths + ";";
    }

    private static void fraction(String name, long above, long below, long dueAbove, long dueBelow) {
        c.due(name + ", above", above, dueAbove);
        c.due(name + ", below", below, dueBelow);
    }

    private static void owedIs(WhatWasHers x, int p, int q, long above, long below) {
        fraction("owed " + p + " " + q, x.owed(p, q, 0), x.owed(p, q, 1), above, below);
    }

    private static void netIs(WhatWasHers x, int p, long above, long below) {
        fraction("net " + p, x.net(p, 0), x.net(p, 1), above, below);
    }

    private static void endIs(WhatWasHers x, int who, long above, long below) {
        fraction("end " + who, x.end(who, 0), x.end(who, 1), above, below);
    }

    // "BAD (alike, too)"; "above (what = 0), below (1)"
    private static void numbers() {
        WhatWasHers[] some = {new WhatWasHers(), Checks.lived(law("sums", 5)),
            Checks.lived(law("parts", 5) + "buy 0 1 2 3;owes 0 1 9;")};
        for (WhatWasHers x : some) {
            for (int what = 0; what < 2; what++) {
                for (int p = 0; p < 3; p++) {
                    c.due("owed alike " + p, x.owed(p, p, what), Checks.BAD);
                    for (int no : Checks.outside(0, 2)) {
                        c.due("owed " + p + " " + no, x.owed(p, no, what), Checks.BAD);
                        c.due("owed " + no + " " + p, x.owed(no, p, what), Checks.BAD);
                        c.due("owed alike " + no, x.owed(no, no, what), Checks.BAD);
                    }
                }
                for (int no : Checks.outside(0, 2)) {
                    c.due("net " + no, x.net(no, what), Checks.BAD);
                }
                for (int no : Checks.outside(0, 1)) {
                    c.due("end " + no, x.end(no, what), Checks.BAD);
                }
            }
        }
    }

    // "BAD; STATE: no LIFE": the first of these that fits
    private static void badAheadOfState() {
        WhatWasHers[] some = {new WhatWasHers(), Checks.lived(law("sums", 5))};
        for (WhatWasHers x : some) {
            for (int no : Checks.outside(0, 1)) {
                for (int p = 0; p < 3; p++) {
                    c.due("owed, " + no, x.owed(p, (p + 1) % 3, no), Checks.BAD);
                    c.due("net, " + no, x.net(p, no), Checks.BAD);
                }
                c.due("her end, " + no, x.end(0, no), Checks.BAD);
                c.due("his end, " + no, x.end(1, no), Checks.BAD);
            }
        }
        for (int what = 0; what < 2; what++) {
            for (int p = 0; p < 3; p++) {
                c.due("owed without a life", some[0].owed(p, (p + 1) % 3, what), Checks.STATE);
                c.due("owed without a life", some[0].owed(p, (p + 2) % 3, what), Checks.STATE);
                c.due("net without a life", some[0].net(p, what), Checks.STATE);
            }
            c.due("her end without a life", some[0].end(0, what), Checks.STATE);
            c.due("his end without a life", some[0].end(1, what), Checks.STATE);
        }
        Checks.tell(some[0], "law own;");
        some[0].life();
        c.due("a fault makes no life", some[0].end(0, 0), Checks.STATE);
    }

    // "(0 is 0 by 1)"
    private static void emptyLife() {
        for (String owe : OWES) {
            for (int hundredths : new int[] {0, 50, 100}) {
                allAreNought(Checks.lived(law(owe, hundredths)));
            }
        }
    }

    private static void allAreNought(WhatWasHers x) {
        for (int p = 0; p < 3; p++) {
            for (int q = 0; q < 3; q++) {
                if (p != q) {
                    owedIs(x, p, q, 0, 1);
                }
            }
            netIs(x, p, 0, 1);
        }
        endIs(x, 0, 0, 1);
        endIs(x, 1, 0, 1);
    }

    // "sums: FED p into q"
    private static void bySums() {
        WhatWasHers x = Checks.lived(law("sums", 50) + "come 0 given 0 1;put 0 0 1 99;put 0 0 2 1;"
            + "put 0 0 0 50;now 1 0 0;buy 2 3 4 0;");
        owedIs(x, 1, 0, 99, 1);
        owedIs(x, 2, 0, 1, 1);
        owedIs(x, 0, 1, 3, 1);
        owedIs(x, 0, 2, 0, 1);
        netIs(x, 0, 0 - 99 - 1 + 3, 1);
        netIs(x, 1, 7 + 99 - 3, 1);
        netIs(x, 2, 1, 1);
        endIs(x, 0, -193, 2);
        endIs(x, 1, 207, 2);
    }

    /** His 99 went in where 1 had been, so WEIGHT is 100. */
    private static void byWorth() {
        String life = "come 0 given 0 1;put 0 0 1 99;";
        int[] worths = {0, 1, 2, 50, 98, 99};
        int[] grown = {0, 0, 1, 49, 97, 98};
        for (int k = 0; k < worths.length; k++) {
            String text = life + "now 1 0 " + worths[k] + ";";
            owedIs(Checks.lived(law("worth", 0) + text), 1, 0, grown[k], 1);
            owedIs(Checks.lived(law("less", 0) + text), 1, 0, grown[k], 1);
            owedIs(Checks.lived(law("more", 0) + text), 1, 0, 99, 1);
            owedIs(Checks.lived(law("sums", 0) + text), 1, 0, 99, 1);
        }
        for (String owe : new String[] {"worth", "less", "more", "sums"}) {
            owedIs(Checks.lived(law(owe, 0) + life), 1, 0, 99, 1);
        }
        // Hers went in behind his: 101 at the end, where his 1 weighed 2.
        String more = "come 0 given 0 1;put 0 0 1 1;put 0 0 0 99;";
        owedIs(Checks.lived(law("worth", 0) + more), 1, 0, 50, 1);
        owedIs(Checks.lived(law("less", 0) + more), 1, 0, 1, 1);
        owedIs(Checks.lived(law("more", 0) + more), 1, 0, 50, 1);
        owedIs(Checks.lived(law("more", 0) + more + "now 1 0 0;"), 1, 0, 1, 1);
        owedIs(Checks.lived(law("less", 0) + more + "now 1 0 0;"), 1, 0, 0, 1);
    }

    // "less, more: of each PUT the lesser, the greater of its SUM and that; added"
    private static void eachPutByItself() {
        String life = "come 0 given 0 10;put 0 0 1 10;now 1 0 90;put 2 0 1 10;now 3 0 50;";
        owedIs(Checks.lived(law("sums", 0) + life), 1, 0, 20, 1);
        owedIs(Checks.lived(law("worth", 0) + life), 1, 0, 25 + 5, 1);
        owedIs(Checks.lived(law("less", 0) + life), 1, 0, 10 + 5, 1);
        owedIs(Checks.lived(law("more", 0) + life), 1, 0, 25 + 10, 1);
    }

    // "cut; added"
    private static void cutByItself() {
        String life = "come 0 given 0 1;put 0 0 1 1;now 0 0 1;put 0 0 1 1;";
        owedIs(Checks.lived(law("worth", 0) + life + "now 1 0 3;"), 1, 0, 1 + 1, 1);
        owedIs(Checks.lived(law("worth", 0) + life + "now 1 0 5;"), 1, 0, 2 + 2, 1);
        owedIs(Checks.lived(law("worth", 0) + life + "now 1 0 1;"), 1, 0, 0, 1);
        owedIs(Checks.lived(law("more", 0) + life + "now 1 0 1;"), 1, 0, 2, 1);
    }

    // "WEIGHT of a PUT: the WORTH of the THING just behind it"
    private static void weights() {
        // Of a 'buy' all that was paid: 297, for each of its PUTS.
        String buy = "buy 0 99 99 99;now 1 0 30;";
        owedIs(Checks.lived(law("worth", 0) + buy), 1, 0, 10, 1);
        owedIs(Checks.lived(law("worth", 0) + buy), 2, 0, 10, 1);
        String more = "buy 0 10 5 5;put 0 0 2 20;";
        owedIs(Checks.lived(law("worth", 0) + more), 1, 0, 10, 1);
        owedIs(Checks.lived(law("worth", 0) + more), 2, 0, 10 + 20, 1);
        // Behind a 'now' of 0 a PUT weighs what it is itself.
        String alone = "come 0 given 0 50;now 0 0 0;put 0 0 1 7;now 1 0 21;";
        owedIs(Checks.lived(law("worth", 0) + alone), 1, 0, 21, 1);
        owedIs(Checks.lived(law("less", 0) + alone), 1, 0, 7, 1);
        String great = "come 0 given 0 99;" + "put 0 0 1 99;".repeat(20);
        owedIs(Checks.lived(law("less", 0) + great), 1, 0, 20 * 99, 1);
        owedIs(Checks.lived(law("less", 0) + great + "now 1 0 0;"), 1, 0, 0, 1);
    }

    // "OWED: what q owes p at the end, by the LAW then"; "her HUNDREDTHS .. by the LAW at the end"
    private static void byTheLawAtTheEnd() {
        String life = "come 0 given 0 10;come 0 earned 1 40;put 0 0 1 10;now 1 0 30;";
        long[] owed = {10, 10, 15, 10, 15};
        for (int first = 0; first < OWES.length; first++) {
            for (int last = 0; last < OWES.length; last++) {
                WhatWasHers x = Checks.lived(law(OWES[first], 0) + law(OWES[last], 25) + life
                    + "land 2 1;");
                owedIs(x, 1, 0, owed[last], 1);
                netIs(x, 0, 30 - owed[last], 1);
                endIs(x, 0, 30 - owed[last] + 10, 1);
                endIs(x, 1, owed[last] + 30, 1);
                WhatWasHers back = Checks.lived(law(OWES[first], 0) + law(OWES[last], 25) + life
                    + "land 2 1;land 2 0;");
                owedIs(back, 1, 0, owed[first], 1);
                endIs(back, 1, owed[first] + 40, 1);
            }
        }
    }

    // "by what CAME into q (1, if nothing came)"
    private static void nothingCame() {
        WhatWasHers debts = Checks.lived(law("parts", 50) + "owes 0 0 5;owes 0 1 6;owes 0 2 7;");
        netIs(debts, 0, -5, 1);
        netIs(debts, 1, -6, 1);
        netIs(debts, 2, -7, 1);
        owedIs(debts, 0, 1, 0, 1);
        endIs(debts, 0, -17, 2);
        WhatWasHers one = Checks.lived(law("parts", 50) + "owes 0 1 99;come 0 given 0 1;put 0 0 1 1;");
        // She keeps 2, half of which he fed: 2 by 3 halves.
        netIs(one, 0, 4, 3);
        owedIs(one, 1, 0, 2, 3);
        netIs(one, 1, -295, 3);
        owedIs(one, 0, 1, 0, 1);
        netIs(one, 2, 0, 1);
    }

    // "parts: FED p into q by what CAME into q, times NET of q"
    private static void parts() {
        WhatWasHers whole = Checks.lived("law own own own own most parts stays 0;agree 0 4 0;"
            + "buy 0 0 99 0;");
        owedIs(whole, 1, 0, 99, 2);
        netIs(whole, 0, 99, 2);
        netIs(whole, 1, 99, 2);
        WhatWasHers own = Checks.lived(law("parts", 0) + "come 0 given 0 3;put 0 0 0 9;");
        netIs(own, 0, 12, 1);
        WhatWasHers least = Checks.lived(law("parts", 0) + "come 0 given 0 99;put 0 0 1 1;");
        owedIs(least, 1, 0, 100, 101);
        netIs(least, 0, 10000, 101);
        netIs(least, 1, 100, 101);
    }

    // "round and round where each fed each"; "all NETS at once"
    private static void roundAndRound() {
        // Each purse has 10 of its own, and 10 of each other's: 30 came into each, and is there.
        StringBuilder life = new StringBuilder("law own own both own most parts stays 50;"
            + "come 0 given 0 10;come 0 given 1 10;come 0 earned 0 10;");
        for (int t = 0; t < 3; t++) {
            for (int p = 0; p < 3; p++) {
                if (p != t) {
                    life.append("put 0 ").append(t).append(' ').append(p).append(" 10;");
                }
            }
        }
        WhatWasHers x = Checks.lived(life.toString());
        for (int p = 0; p < 3; p++) {
            netIs(x, p, 30, 1);
            owedIs(x, p, (p + 1) % 3, 10, 1);
            owedIs(x, p, (p + 2) % 3, 10, 1);
        }
        endIs(x, 0, 45, 1);
        // NET p is HAS p and a third of the others' NETS, less two thirds of its own.
        WhatWasHers hersAlone = Checks.lived(life + "now 1 0 36;now 1 1 0;now 1 2 0;");
        netIs(hersAlone, 0, 24, 1);
        netIs(hersAlone, 1, 6, 1);
        netIs(hersAlone, 2, 6, 1);
        owedIs(hersAlone, 1, 0, 8, 1);
        owedIs(hersAlone, 0, 2, 2, 1);
        endIs(hersAlone, 0, 27, 1);
    }

    // "the lower one above 0", of what is below 0, too
    private static void belowNothing() {
        WhatWasHers x = Checks.lived("law own own own own most parts stays 50;come 0 given 0 2;"
            + "put 0 0 1 1;now 0 0 0;owes 0 0 1;");
        // What she keeps is -1; a third of it by his part.
        netIs(x, 0, -3, 4);
        owedIs(x, 1, 0, -1, 4);
        netIs(x, 1, -1, 4);
        endIs(x, 0, -3, 4);
        endIs(x, 1, -1, 4);
        WhatWasHers both = Checks.lived(law("sums", 33) + "owes 0 2 1;");
        endIs(both, 0, -33, 100);
        endIs(both, 1, -67, 100);
    }

    private static void nought() {
        WhatWasHers x = Checks.lived("law own own both own most parts stays 50;come 0 given 0 9;"
            + "put 0 0 1 3;put 0 0 2 5;come 0 earned 0 4;put 0 1 0 2;now 1 0 0;now 1 1 0;");
        allAreNought(x);
        WhatWasHers evened = Checks.lived(law("sums", 50) + "come 0 given 0 5;owes 0 0 5;");
        allAreNought(evened);
    }

    private static void hundredths() {
        String life = "come 0 earned 0 1;";
        long[][] due = {{0, 0, 1, 1, 1}, {1, 1, 100, 99, 100}, {2, 1, 50, 49, 50},
            {33, 33, 100, 67, 100}, {50, 1, 2, 1, 2}, {75, 3, 4, 1, 4}, {99, 99, 100, 1, 100},
            {100, 1, 1, 0, 1}};
        for (long[] d : due) {
            WhatWasHers x = Checks.lived(law("sums", (int) d[0]) + life);
            endIs(x, 0, d[1], d[2]);
            endIs(x, 1, d[3], d[4]);
            netIs(x, 2, 1, 1);
        }
    }

    // "told as two numbers in lowest terms"
    private static void lowestTerms() {
        WhatWasHers x = Checks.lived("law own own own own most parts stays 50;come 0 given 0 10;"
            + "put 0 0 1 20;");
        // 20 of 30 that came are his: NET is 30 by 5 thirds.
        netIs(x, 0, 18, 1);
        owedIs(x, 1, 0, 12, 1);
        WhatWasHers odd = Checks.lived("law own own own own most parts stays 50;come 0 given 0 10;"
            + "put 0 0 1 20;now 1 0 25;");
        netIs(odd, 0, 15, 1);
        WhatWasHers sixth = Checks.lived("law own own own own most parts stays 50;come 0 given 0 99;"
            + "put 0 0 1 99;now 1 0 1;");
        netIs(sixth, 0, 2, 3);
        owedIs(sixth, 1, 0, 1, 3);
    }

    /** As much as there is room for: 30 events, 10 THINGS, 50 PUTS, all of 99. */
    private static void greatest() {
        String life = "buy 0 99 99 99;".repeat(10) + "put 0 0 1 99;".repeat(20);
        WhatWasHers x = Checks.lived("law own own own own most parts all 0;" + life);
        // 4950 came, 2970 of it his, 990 both's: NET is 4950 by 9 fifths.
        netIs(x, 0, 2750, 1);
        owedIs(x, 1, 0, 1650, 1);
        owedIs(x, 2, 0, 550, 1);
        endIs(x, 0, 2750, 1);
        endIs(x, 1, 2200, 1);
        WhatWasHers sums = Checks.lived("law own own own own most sums all 0;" + life);
        netIs(sums, 0, 990, 1);
        owedIs(sums, 1, 0, 2970, 1);
        // The last of the 20 PUTS weighs 297 + 20 * 99, as is its WORTH at the end.
        WhatWasHers worth = Checks.lived("law own own own own most worth all 0;" + life);
        owedIs(worth, 2, 0, 9 * 99 + 99 * (297 + 1980) / 297, 1);
        owedIs(worth, 1, 0, 9 * 99 + 99 * 2277 / 297 + grownPuts(), 1);
        WhatWasHers debts = Checks.lived("law own own own own most parts all 0;"
            + "owes 0 0 99;".repeat(30));
        netIs(debts, 0, -2970, 1);
        endIs(debts, 0, -2970, 1);
    }

    private static long grownPuts() {
        long all = 0;
        for (int k = 1; k <= 20; k++) {
            all += 99 * 2277 / (297 + 99 * k);
        }
        return all;
    }
}
