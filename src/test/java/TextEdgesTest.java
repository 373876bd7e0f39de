import java.util.ArrayList;
import java.util.List;

/**
 * Boundary cases of TEXTS: promises 6 to 8 and the part marked 1. In texts with a FAULT a mark '^'
 * stands ahead of the TOKEN that has it (or at the end) and is not fed.
 */
public final class TextEdgesTest {
    private static final int NONE = Checks.NONE;
    private static final long NOT = WhatWasHers.NOT;
    private static final int MIN = Checks.MIN;
    private static final int MAX = Checks.MAX;
    private static final int TAPE = 500;
    private static final String LAW = "law own own own own most sums stays 50;";
    private static final String OWES = "owes 0 0 1;";
    private static final String COME = "come 0 given 0 1;";
    private static final String BUY = "buy 0 1 0 0;";
    private static final String[] WORDS = {"law", "own", "both", "most", "sums", "parts", "worth",
        "less", "more", "stays", "all", "come", "brought", "given", "earned", "heired", "buy", "put",
        "now", "owes", "land", "agree"};

    private static final Checks c = new Checks();

    public static void main(String[] args) {
        bytesOfFeed();
        numbersOfFeed();
        roomOfTape();
        greatWords();
        fullTapes();
        emptyTexts();
        everyByte();
        everyByteAsToken();
        betweenTokens();
        names();
        figures();
        placesInLaw();
        wordsOfLaw();
        hundredths();
        roomForLaws();
        wordsAtEvents();
        days();
        comes();
        buys();
        puts();
        nows();
        debts();
        lands();
        agreements();
        unfinished();
        roomForEvents();
        roomForThings();
        firstAndLeast();
        whatAFaultLeaves();
        latestFault();
        inPlaceOfTheOneBefore();
        c.end();
    }

    private static void reads(String text, int events) {
        WhatWasHers x = new WhatWasHers();
        Checks.tell(x, text);
        c.due("bytes of " + text, x.count(5), text.length());
        c.due("life of " + text, x.life(), events);
        c.due("no fault of " + text, x.fault(), 0);
        c.due("events of " + text, x.count(2), events);
        c.due("the tape is empty then", x.count(5), 0);
    }

    private static void faulty(int number, String marked) {
        int place = marked.indexOf('^');
        String text = marked.substring(0, place) + marked.substring(place + 1);
        WhatWasHers x = new WhatWasHers();
        Checks.tell(x, text);
        c.due("life of " + marked, x.life(), NOT - 100 - place);
        c.due("fault of " + marked, x.fault(), number);
        c.due("no life by " + marked, x.count(6), NONE);
        c.due("no laws by " + marked, x.count(1), 0);
        c.due("no events by " + marked, x.count(2), 0);
        c.due("the tape is empty then", x.count(5), 0);
    }

    /** An event with one number of several values: those from least to most may be, no others. */
    private static void bounded(String ahead, int least, int most, String behind, int events) {
        for (int v : new int[] {0, 1, 2, 3, 4, 5, 98, 99, 100, 101, 998, 999}) {
            if (v >= least && v <= most) {
                reads(ahead + v + behind, events);
            } else {
                faulty(2, ahead + "^" + v + behind);
            }
        }
        reads(ahead + least + behind, events);
        reads(ahead + most + behind, events);
        if (least > 0) {
            faulty(2, ahead + "^" + (least - 1) + behind);
        }
        faulty(most == 999 ? 1 : 2, ahead + "^" + (most + 1) + behind);
        faulty(1, ahead + "^1000" + behind);
        faulty(1, ahead + "^0000" + behind);
        faulty(1, ahead + "^-1" + behind);
        faulty(1, ahead + "^own" + behind);
        faulty(1, ahead + "^;" + behind);
        faulty(1, ahead + "^");
    }

    // "The lowest n bytes of w (1 to 8), the highest of them first, come behind the tape"
    private static void bytesOfFeed() {
        String text = LAW + "come 7 heired 1 42;";
        for (int n = 1; n <= 8; n++) {
            for (long above : new long[] {0, -1L, 0x3b3b3b3b3b3b3b3bL}) {
                WhatWasHers x = new WhatWasHers();
                int from = 0;
                while (from < text.length()) {
                    int size = Math.min(n, text.length() - from);
                    long w = above;
                    for (int i = from; i < from + size; i++) {
                        w = w << 8 | text.charAt(i);
                    }
                    from += size;
                    c.due("feed of " + size, x.feed(w, size), from);
                }
                c.due("fed by " + n, x.life(), 1);
                c.due("the event's day", x.whose(0, 6), NONE);
                c.due("the event's day", x.whose(0, 7), 1);
                c.due("the event's worth", x.thing(0, 4), 42);
            }
        }
    }

    private static void numbersOfFeed() {
        WhatWasHers x = new WhatWasHers();
        for (int no : new int[] {0, 9, -1, -8, 16, 264, MIN, MIN + 8, MAX}) {
            c.due("feed of " + no, x.feed(0x6c6177L, no), Checks.BAD);
            c.due("none came", x.count(5), 0);
        }
        int bytes = 0;
        for (int n = 1; n <= 8; n++) {
            bytes += n;
            c.due("feed of " + n, x.feed(0, n), bytes);
        }
        for (int no : Checks.outside(1, 8)) {
            c.due("feed of " + no, x.feed(0, no), Checks.BAD);
            c.due("still so many", x.count(5), bytes);
        }
    }

    private static WhatWasHers fedBlanks(int bytes) {
        WhatWasHers x = new WhatWasHers();
        Checks.tell(x, " ".repeat(bytes));
        return x;
    }

    // "THE TAPE has at most 500 bytes"; "FULL: none comes"; BAD ahead of FULL
    private static void roomOfTape() {
        for (int bytes = TAPE - 9; bytes <= TAPE; bytes++) {
            for (int n = 1; n <= 8; n++) {
                WhatWasHers x = fedBlanks(bytes);
                boolean fits = bytes + n <= TAPE;
                c.due(n + " behind " + bytes, x.feed(0, n), fits ? bytes + n : Checks.FULL);
                c.due("then there are", x.count(5), fits ? bytes + n : bytes);
            }
        }
        WhatWasHers full = fedBlanks(TAPE);
        for (int no : Checks.outside(1, 8)) {
            c.due("bad ahead of full", full.feed(0, no), Checks.BAD);
        }
        c.due("the end of all blanks", full.life(), NOT - 100 - TAPE);
        c.due("its fault", full.fault(), 1);
        c.due("room again", full.feed(0, 8), 8);
    }

    private static void greatWords() {
        long[] great = {Long.MIN_VALUE, Long.MIN_VALUE + 1, -1L, 0L, Long.MAX_VALUE};
        for (long w : great) {
            for (int n = 1; n <= 8; n++) {
                WhatWasHers x = new WhatWasHers();
                Checks.tell(x, "law ");
                c.due("feed of " + w, x.feed(w, n), 4 + n);
                c.due("no token", x.life(), NOT - 104);
                c.due("no token", x.fault(), 1);
            }
        }
        WhatWasHers x = new WhatWasHers();
        c.due("lowest three of one below 0", x.feed(Long.MIN_VALUE | 0x6c6177L, 3), 3);
        Checks.tell(x, LAW.substring(3));
        c.due("read", x.life(), 0);
    }

    private static String padded(String ahead, String behind, int bytes) {
        return ahead + " ".repeat(bytes - ahead.length() - behind.length()) + behind;
    }

    private static void fullTapes() {
        for (int bytes = TAPE - 1; bytes <= TAPE; bytes++) {
            reads(padded(LAW, "", bytes), 0);
            reads(padded("", LAW, bytes), 0);
            reads(padded(LAW, OWES, bytes), 1);
            faulty(1, padded(LAW, "owes 0 0 1", bytes) + "^");
            faulty(1, padded(LAW, "^owe", bytes + 1));
            faulty(2, padded(LAW, "owes 0 0 ^0", bytes + 1));
            faulty(1, padded(LAW, "^;", bytes + 1));
            faulty(1, "^" + "a".repeat(bytes));
            faulty(1, LAW + "owes ^" + "1".repeat(bytes - LAW.length() - 5));
        }
    }

    // "(the end: how many bytes there are)"; "none at first"; "LAWS .. one at least"
    private static void emptyTexts() {
        faulty(1, "^");
        faulty(1, " ^");
        faulty(1, "\n^");
        faulty(1, " \n \n^");
        faulty(1, "^;");
        faulty(1, "^7");
        faulty(1, "^come 0 given 0 1;");
        faulty(1, "^own");
        reads(LAW, 0);
    }

    private static boolean isLetter(int b) {
        return b >= 97 && b <= 122;
    }

    private static boolean isFigure(int b) {
        return b >= 48 && b <= 57;
    }

    private static boolean isBetween(int b) {
        return b == 32 || b == 10;
    }

    // "NAMES (letters a to z), NUMBERS (figures ..), SIGNS ; bytes 32 and 10 between"
    private static void everyByte() {
        String law = "law own own own own most sums stays 50";
        for (int b = 0; b < 256; b++) {
            char sign = (char) b;
            if (isBetween(b)) {
                reads(law + sign + ";", 0);
                reads(sign + law + ";", 0);
                reads(law + ";" + sign, 0);
                continue;
            }
            if (isFigure(b)) {
                faulty(2, "law own own own own most sums stays ^50" + sign + ";");
            } else {
                faulty(1, law + (b == ';' ? ";^" : "^") + sign + (b == ';' ? "" : ";"));
            }
            faulty(1, "^" + sign + law + ";");
            faulty(1, law + ";^" + sign);
            // Within a name: a letter makes it another one, all else ends it.
            if (isLetter(b)) {
                faulty(1, "law own ^ow" + sign + "n own own most sums stays 5;");
            } else {
                faulty(1, "law own ^ow" + sign);
                faulty(1, "law own own^" + sign);
            }
        }
    }

    private static void everyByteAsToken() {
        for (int b = 0; b < 256; b++) {
            char sign = (char) b;
            if (isFigure(b)) {
                reads(LAW + "owes 0 0 9" + sign + ";", 1);
                faulty(1, LAW + "owes 0 0 9 ^" + sign + ";");
            } else if (isBetween(b)) {
                reads(LAW + "owes 0 0 9" + sign + ";", 1);
                reads(LAW + "owes 0 0 9 " + sign + ";", 1);
            } else if (b == ';') {
                reads(LAW + "owes 0 0 9" + sign, 1);
                reads(LAW + "owes 0 0 9 " + sign, 1);
            } else {
                faulty(1, LAW + "owes 0 0 9^" + sign + ";");
                faulty(1, LAW + "owes 0 0 9 ^" + sign + ";");
            }
        }
    }

    private static void betweenTokens() {
        reads("\n\n law \n own\nown own  own\nmost sums stays\n50\n;\n owes 0\n0\n1 \n;\n", 1);
        reads("law own own own own most sums stays50;owes0 0 1;come0given0 1;", 2);
        reads(LAW + "come 0given 0 1;come 0 given0 1;", 2);
        faulty(1, "^lawown own own own most sums stays 50;");
        faulty(1, "law own own own own most sums ^stay s 50;");
        faulty(1, LAW + "owes 0 0 1 ^0;");
        faulty(2, LAW + "owes 0 ^10;");
        faulty(1, LAW + "owes 0 01^;");
    }

    private static void names() {
        for (String wrong : new String[] {"la", "laws", "lawa", "awl", "l", "w", "wal", "lax"}) {
            faulty(1, "^" + wrong + " own own own own most sums stays 50;");
            faulty(1, LAW + "^" + wrong + " own own own own most sums stays 50;");
        }
        faulty(1, "^Law own own own own most sums stays 50;");
        faulty(1, "^laW own own own own most sums stays 50;");
        faulty(1, "law^L");
        for (String word : WORDS) {
            if (!word.equals("law")) {
                faulty(1, "^" + word);
            }
            faulty(1, "^" + word + "x");
            faulty(1, "^" + word.substring(1));
        }
    }

    // "NUMBERS (figures, 3 at most)"
    private static void figures() {
        for (String ok : new String[] {"1", "01", "001"}) {
            reads(LAW + "owes 0 0 " + ok + ";", 1);
            reads(LAW + "owes " + ok + " 0 1;", 1);
        }
        reads(LAW + "owes 000 000 099;", 1);
        reads("law own own own own most sums stays 000;", 0);
        reads("law own own own own most sums stays 100;", 0);
        faulty(1, LAW + "owes 0 0 ^0001;");
        faulty(1, LAW + "owes 0 ^0000 1;");
        faulty(1, LAW + "owes ^0000 0 1;");
        faulty(1, LAW + "owes ^9999 0 1;");
        faulty(1, LAW + "owes 0 0 ^00000000000000000001;");
        faulty(1, LAW + "owes 0 0 ^4294967297;");
        faulty(1, LAW + "owes 0 0 ^18446744073709551617;");
        faulty(1, "law own own own own most sums stays ^0050;");
    }

    private static final String[] LAW_WORDS =
        {"law", "own", "own", "own", "own", "most", "sums", "stays", "50", ";"};

    private static String lawWith(int place, String put) {
        StringBuilder text = new StringBuilder();
        for (int k = 0; k < LAW_WORDS.length; k++) {
            text.append(k == place ? put : LAW_WORDS[k]).append(' ');
        }
        return text.toString();
    }

    // "1 it cannot stand there"
    private static void placesInLaw() {
        for (int place = 0; place < LAW_WORDS.length; place++) {
            String[] may = mayStand(place);
            for (String word : WORDS) {
                if (List.of(may).contains(word)) {
                    reads(lawWith(place, word), 0);
                } else {
                    faulty(1, lawWith(place, "^" + word));
                }
            }
            for (String other : new String[] {";", "50"}) {
                if (!LAW_WORDS[place].equals(other)) {
                    faulty(1, lawWith(place, "^" + other));
                }
            }
            faulty(1, lawWith(place, "^#"));
            faulty(1, lawUpTo(place) + "^");
        }
        faulty(1, LAW + "^;");
        faulty(1, LAW + "^50;");
    }

    private static String lawUpTo(int place) {
        StringBuilder text = new StringBuilder();
        for (int k = 0; k < place; k++) {
            text.append(LAW_WORDS[k]).append(' ');
        }
        return text.toString();
    }

    private static String[] mayStand(int place) {
        switch (place) {
            case 0: return new String[] {"law"};
            case 1: case 2: case 3: case 4: return new String[] {"own", "both"};
            case 5: return new String[] {"most", "both"};
            case 6: return new String[] {"sums", "parts", "worth", "less", "more"};
            case 7: return new String[] {"stays", "all"};
            default: return new String[0];
        }
    }

    private static void wordsOfLaw() {
        faulty(1, "law own own own both^;");
        faulty(1, "law own own own own ^own most sums stays 50;");
        faulty(1, "law own own own ^most sums stays 50;");
        reads("law both both both both both more all 0;", 0);
    }

    // "the NUMBER: her HUNDREDTHS of BOTH (0 to 100)"
    private static void hundredths() {
        bounded("law own own own own most sums stays ", 0, 100, ";", 0);
        bounded(LAW + "law both both both both both worth all ", 0, 100, ";", 0);
    }

    // "LAWS 0 .. 3 (4 at most, one at least)"; "3 a LAW .. more than there is room for (its word)"
    private static void roomForLaws() {
        for (int laws = 1; laws <= 4; laws++) {
            WhatWasHers x = Checks.lived(LAW.repeat(laws));
            c.due("laws", x.count(1), laws);
            c.due("the law at the end is the first", x.count(6), 0);
            reads(LAW.repeat(laws) + OWES, 1);
        }
        faulty(3, LAW.repeat(4) + "^" + LAW);
        faulty(3, LAW.repeat(4) + "^law");
        faulty(3, LAW.repeat(4) + "^law;");
        faulty(3, LAW.repeat(4) + " \n ^law own");
        faulty(1, LAW.repeat(4) + "^laws");
        faulty(1, LAW.repeat(4) + OWES + "^law");
        faulty(1, LAW + OWES + "^" + LAW);
    }

    private static void wordsAtEvents() {
        for (String word : WORDS) {
            boolean begins = List.of("law", "come", "buy", "put", "now", "owes", "land", "agree")
                .contains(word);
            faulty(1, LAW + (begins ? word + " ^" : "^" + word));
            faulty(1, LAW + OWES + (begins && !word.equals("law") ? word + "^" : "^" + word));
        }
        faulty(1, LAW + "^comes 0 given 0 1;");
        faulty(1, LAW + "^0");
        faulty(1, LAW + OWES + "^0");
        faulty(1, LAW + OWES + "^;");
    }

    // "A DAY: 0 to 999, no less than that of the event ahead"
    private static void days() {
        String[] events = {"come * given 0 1;", "buy * 1 0 0;", "put * 0 0 1;", "now * 0 1;",
            "owes * 0 1;", "land * 0;", "agree * 0 0;"};
        for (String event : events) {
            String thing = event.startsWith("put") || event.startsWith("now") ? COME : "";
            int all = thing.isEmpty() ? 1 : 2;
            String name = event.substring(0, event.indexOf('*'));
            String rest = event.substring(event.indexOf('*') + 1);
            bounded(LAW + thing + name, 0, 999, rest, all);
            for (int day : new int[] {0, 1, 5, 998, 999}) {
                String ahead = LAW + "come " + day + " given 0 1;" + name;
                reads(ahead + day + rest, 2);
                if (day > 0) {
                    faulty(2, ahead + "^" + (day - 1) + rest);
                    faulty(2, ahead + "^0" + rest);
                }
                if (day < 999) {
                    reads(ahead + (day + 1) + rest, 2);
                    reads(ahead + 999 + rest, 2);
                }
            }
        }
        reads(LAW + "owes 3 0 1;owes 3 0 1;owes 4 0 1;owes 4 0 1;", 4);
        faulty(2, LAW + "owes 3 0 1;owes 5 0 1;owes ^4 0 1;");
    }

    // "'come' DAY way WHO WORTH"; "WORTHS 0 to 99 ('come': 1 to 99)"; "WHO: 0 her, 1 him"
    private static void comes() {
        for (String way : new String[] {"brought", "given", "earned", "heired"}) {
            bounded(LAW + "come 0 " + way + " ", 0, 1, " 9;", 1);
            bounded(LAW + "come 0 " + way + " 1 ", 1, 99, ";", 1);
        }
        for (String word : WORDS) {
            boolean way = List.of("brought", "given", "earned", "heired").contains(word);
            if (!way) {
                faulty(1, LAW + "come 0 ^" + word + " 0 1;");
            }
        }
        faulty(1, LAW + "come 0 ^bought 0 1;");
        faulty(1, LAW + "come 0 ^0 0 1;");
        faulty(1, LAW + "come 0 given 0 1 ^1;");
    }

    // "(out of HERS, HIS, BOTH: 0 to 99 each, one above 0)"; "a third SUM of 0 behind two of 0"
    private static void buys() {
        bounded(LAW + "buy 0 ", 0, 99, " 1 0;", 1);
        bounded(LAW + "buy 0 1 ", 0, 99, " 0;", 1);
        bounded(LAW + "buy 0 1 0 ", 0, 99, ";", 1);
        bounded(LAW + "buy 0 0 1 ", 0, 99, ";", 1);
        bounded(LAW + "buy 0 0 0 ", 1, 99, ";", 1);
        bounded(LAW + "buy 0 99 99 ", 0, 99, ";", 1);
        faulty(2, LAW + "buy 0 0 0 ^0;");
        faulty(2, LAW + "buy 0 00 000 ^000;");
        faulty(1, LAW + "buy 0 0 0 ^0000;");
        faulty(1, LAW + "buy 0 0 0^;");
        faulty(1, LAW + "buy 0 1 0 0 ^0;");
        faulty(2, LAW + "buy 0 ^100 0 0;");
    }

    // "2 .. (a THING .. that is not there yet"; "SUMS 1 to 99"; "PURSES: 0 .. 2"
    private static void puts() {
        faulty(2, LAW + "put 0 ^0 0 1;");
        faulty(2, LAW + "put 0 ^0 0 1;" + COME);
        for (int things = 1; things <= 10; things++) {
            String ahead = LAW + BUY.repeat(things);
            bounded(ahead + "put 0 ", 0, things - 1, " 0 1;", things + 1);
            bounded(ahead + "put 0 " + (things - 1) + " ", 0, 2, " 1;", things + 1);
        }
        // Events that bring nothing make no THING.
        faulty(2, LAW + OWES + "land 0 0;agree 0 0 0;put 0 ^0 0 1;");
        bounded(LAW + COME + OWES + BUY + "now 0 0 1;agree 0 0 0;put 0 ", 0, 1, " 0 1;", 6);
        bounded(LAW + COME + "put 0 0 2 ", 1, 99, ";", 2);
        faulty(1, LAW + COME + "put 0 0 2 1 ^1;");
    }

    private static void nows() {
        faulty(2, LAW + "now 0 ^0 1;");
        faulty(2, LAW + "now 0 ^0 1;" + COME);
        for (int things = 1; things <= 10; things++) {
            String ahead = LAW + BUY.repeat(things);
            bounded(ahead + "now 0 ", 0, things - 1, " 0;", things + 1);
        }
        faulty(2, LAW + OWES + "land 0 0;agree 0 0 0;now 0 ^0 1;");
        bounded(LAW + COME + OWES + BUY + "put 0 0 1 1;land 0 0;now 0 ", 0, 1, " 0;", 6);
        bounded(LAW + COME + "now 0 0 ", 0, 99, ";", 2);
        faulty(1, LAW + COME + "now 0 0 1 ^1;");
    }

    private static void debts() {
        bounded(LAW + "owes 0 ", 0, 2, " 1;", 1);
        for (int purse = 0; purse < 3; purse++) {
            bounded(LAW + "owes 0 " + purse + " ", 1, 99, ";", 1);
        }
        faulty(1, LAW + "owes 0 0 1 ^1;");
    }

    // "a LAW that is not there yet"
    private static void lands() {
        for (int laws = 1; laws <= 4; laws++) {
            bounded(LAW.repeat(laws) + "land 0 ", 0, laws - 1, ";", 1);
        }
        faulty(2, LAW + "land 0 ^1;" + LAW);
        faulty(1, LAW + "land 0 0 ^0;");
    }

    // "'agree' DAY WAY PURSE ';' (WAY 0 to 4)"
    private static void agreements() {
        bounded(LAW + "agree 0 ", 0, 4, " 0;", 1);
        for (int way = 0; way <= 4; way++) {
            bounded(LAW + "agree 0 " + way + " ", 0, 2, ";", 1);
        }
        faulty(1, LAW + "agree 0 ^given 0;");
        faulty(1, LAW + "agree 0 0 0 ^0;");
    }

    /** Each event broken off behind each of its TOKENS, with and without a sign there. */
    private static void unfinished() {
        String[] events = {"come 0 given 0 1", "buy 0 1 1 1", "put 0 0 0 1", "now 0 0 1", "owes 0 0 1",
            "land 0 0", "agree 0 0 0"};
        for (String event : events) {
            List<String> tokens = new ArrayList<>(List.of(event.split(" ")));
            while (!tokens.isEmpty()) {
                String part = String.join(" ", tokens);
                faulty(1, LAW + COME + part + "^");
                faulty(1, LAW + COME + part + " \n^");
                faulty(1, LAW + COME + part + " ^law");
                if (tokens.size() < event.split(" ").length) {
                    faulty(1, LAW + COME + part + "^;");
                }
                tokens.remove(tokens.size() - 1);
            }
            reads(LAW + COME + event + ";", 2);
        }
    }

    // "EVENTS 0 .. 29 (30 at most)"; "3 .. an EVENT more than there is room for (its word)"
    private static void roomForEvents() {
        String law = "law own own own own most sums all 0;";
        for (int events : new int[] {0, 1, 29, 30}) {
            reads(law + OWES.repeat(events), events);
        }
        String full = law + OWES.repeat(30);
        for (String word : new String[] {"come", "buy", "put", "now", "owes", "land", "agree"}) {
            faulty(3, full + "^" + word);
            faulty(3, full + " ^" + word + " 0 0 1;");
            faulty(3, full + "^" + word + ";");
            faulty(1, full + "^" + word + "s");
        }
        faulty(1, full + "^law");
        faulty(1, full + "^own");
        faulty(1, full + "^;");
        faulty(1, full + "^0");
        faulty(1, full + "^#");
        faulty(1, law + OWES.repeat(29) + "owes 0 0 1^");
        reads(full + " \n", 30);
    }

    // "THINGS 0 .. 9 (10 at most)"; "a THING (the word of its event)"
    private static void roomForThings() {
        for (String brings : new String[] {COME, BUY}) {
            String nine = LAW + brings.repeat(9);
            reads(nine, 9);
            reads(nine + COME, 10);
            reads(nine + BUY, 10);
            for (String last : new String[] {COME, BUY}) {
                String full = nine + last;
                reads(full + OWES + "put 0 9 0 1;now 0 9 1;land 0 0;agree 0 0 0;", 15);
                faulty(3, full + "^" + COME);
                faulty(3, full + "^" + BUY);
                faulty(3, full + "^come");
                faulty(3, full + "^buy x");
                faulty(3, full + OWES + "^come 1000");
                faulty(1, full + "^comes");
            }
        }
        WhatWasHers x = Checks.lived(LAW + BUY.repeat(10));
        c.due("ten things", x.count(3), 10);
        c.due("the last of them", x.thing(9, 2), 9);
        c.due("no eleventh", x.thing(10, 0), Checks.BAD);
    }

    // "FAULTS, the first TOKEN that has one (its first byte), of one TOKEN the least"
    private static void firstAndLeast() {
        faulty(2, "law own own own own most sums stays ^101;" + "x");
        faulty(2, LAW + "owes 0 ^3 0;");
        faulty(2, LAW + "owes 0 0 ^100x");
        faulty(1, LAW + "owes ^x 3 0;");
        faulty(2, LAW + "come 5 given 0 1;put ^4 7 7 0;");
        String things = LAW + BUY.repeat(10);
        String law = "law own own own own most sums all 0;";
        // The 31st event would be the 11th thing, too: both are 3, at one place.
        String full = law + BUY.repeat(10) + OWES.repeat(20);
        faulty(3, full + "^" + BUY);
        faulty(3, full + "^" + OWES);
        faulty(2, things + "owes 0 0 ^0;" + COME);
        faulty(1, things + "^own " + COME);
        faulty(2, LAW.repeat(3) + "law own own own own most sums stays ^101;" + LAW);
        faulty(1, LAW.repeat(4) + "^own " + LAW);
    }

    // "NOT less 100 less the place of a FAULT: the LIFE stays"; "The tape, empty then"
    private static void whatAFaultLeaves() {
        String[] wrong = {"", "x", LAW + "x", LAW + BUY + "put 0 1 0 1;", LAW.repeat(5),
            "law own own own own most sums all 0;" + OWES.repeat(31), LAW + BUY.repeat(11),
            LAW + LAW + "come 0 heired 1 9;buy 1 3 3 3;agree 2 1 2;owes 3 1 1"};
        for (String text : wrong) {
            WhatWasHers x = Checks.lived("law own both own own most worth stays 40;"
                + "come 3 given 0 8;buy 4 0 5 1;put 5 1 0 7;owes 6 2 4;agree 7 0 1;");
            Checks.tell(x, text);
            if (x.life() >= 0) {
                throw new IllegalStateException("no FAULT in " + text);
            }
            c.due("tape behind " + text, x.count(5), 0);
            long[] counts = {0, 1, 5, 2, 3, 0, 0};
            for (int what = 0; what < counts.length; what++) {
                c.due("count " + what + " behind " + text, x.count(what), counts[what]);
            }
            c.due("purse behind " + text, x.thing(0, 0), 2);
            c.due("purse behind " + text, x.thing(1, 0), 1);
            c.due("worth behind " + text, x.thing(1, 4), 13);
            c.due("whose behind " + text, x.whose(0, 2), NONE);
            c.due("whose behind " + text, x.whose(0, 3), 2);
            c.due("net behind " + text, x.net(1, 0), 13 - 7 - 2);
            c.due("net behind " + text, x.net(2, 0), 8 - 4 + 2);
            c.due("end behind " + text, x.end(0, 0), 47);
            c.due("end behind " + text, x.end(0, 1), 5);
            c.due("beside behind " + text, x.beside(0, 0, 0), 47);
            c.due("hangs behind " + text, x.hangs(), 2);
        }
    }

    // "The number of the latest FAULT; 0 before one"
    private static void latestFault() {
        WhatWasHers x = new WhatWasHers();
        c.due("before one", x.fault(), 0);
        x.feed(0, 9);
        x.hangs();
        c.due("a refusal is none", x.fault(), 0);
        Checks.live(x, LAW);
        c.due("a life without one", x.fault(), 0);
        String[] texts = {LAW + "owes 0 0 0;", LAW.repeat(5), "x", LAW.repeat(5), LAW + "land 0 1;"};
        int[] numbers = {2, 3, 1, 3, 2};
        for (int k = 0; k < texts.length; k++) {
            Checks.tell(x, texts[k]);
            x.life();
            c.due("the latest", x.fault(), numbers[k]);
            c.due("asked again", x.fault(), numbers[k]);
            Checks.live(x, LAW);
            c.due("a life behind it leaves it", x.fault(), numbers[k]);
        }
        x.life();
        c.due("an empty tape has one", x.fault(), 1);
    }

    // "A LIFE that is read stands in place of the one before"
    private static void inPlaceOfTheOneBefore() {
        String great = LAW.repeat(2) + "agree 0 1 1;land 1 1;" + "buy 2 9 8 7;".repeat(9)
            + "owes 3 0 9;owes 3 1 9;owes 3 2 9;put 4 0 2 5;";
        WhatWasHers x = Checks.lived(great);
        Checks.live(x, LAW + "come 0 given 0 6;");
        long[] counts = {0, 1, 1, 1, 0, 0, 0};
        for (int what = 0; what < counts.length; what++) {
            c.due("count " + what + " of the new one", x.count(what), counts[what]);
        }
        c.due("no agreement of the one before", x.thing(0, 0), 0);
        c.due("no second thing", x.thing(1, 0), Checks.BAD);
        c.due("no second law", x.beside(1, 0, 0), Checks.BAD);
        for (int purse = 0; purse < 3; purse++) {
            c.due("no debts", x.purse(purse, 2), 0);
            c.due("came", x.purse(purse, 1), purse == 0 ? 6 : 0);
            c.due("has", x.purse(purse, 0), purse == 0 ? 6 : 0);
            c.due("net", x.net(purse, 0), purse == 0 ? 6 : 0);
        }
        c.due("none fed", x.fed(2, 0), 0);
        c.due("none hangs", x.hangs(), NONE);
        Checks.live(x, LAW);
        for (int what = 1; what < counts.length; what++) {
            c.due("count " + what + " of an empty one", x.count(what), what == 1 ? 1 : 0);
        }
        c.due("no thing", x.whose(0, 0), Checks.BAD);
        c.due("her end", x.end(0, 0), 0);
        Checks.live(x, great);
        c.due("the great one again", x.count(3), 9);
        c.due("its law", x.count(6), 1);
        c.due("its puts", x.count(4), 28);
    }
}
