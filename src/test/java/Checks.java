/** What all tests of the project share: a count of wrong answers, and the feeding of texts. */
final class Checks {
    static final int NONE = WhatWasHers.NONE;
    static final long BAD = WhatWasHers.NOT - 1;
    static final long STATE = WhatWasHers.NOT - 2;
    static final long FULL = WhatWasHers.NOT - 3;
    static final long NULL = WhatWasHers.NOT - 11;
    static final long PLACE = WhatWasHers.NOT - 12;
    static final long KIND = WhatWasHers.NOT - 13;
    static final long SIZE = WhatWasHers.NOT - 14;
    static final long STORE = WhatWasHers.NOT - 15;
    static final int MIN = Integer.MIN_VALUE;
    static final int MAX = Integer.MAX_VALUE;

    private int wrong;
    private int asked;

    void due(String call, long got, long want) {
        asked++;
        if (got != want) {
            wrong++;
            if (wrong <= 40) {
                System.out.println(call + " answered " + got + ", due is " + want);
            }
        }
    }

    void end() {
        System.out.println(asked + " answers, " + wrong + " of them not as due");
        if (wrong != 0) {
            System.exit(1);
        }
    }

    /** The numbers just outside of least .. most, and those farthest from it. */
    static int[] outside(int least, int most) {
        return new int[] {least - 1, most + 1, MIN, MAX};
    }

    static void tell(WhatWasHers x, String text) {
        for (int from = 0; from < text.length(); from += 8) {
            int to = Math.min(text.length(), from + 8);
            long w = 0;
            for (int i = from; i < to; i++) {
                w = w << 8 | text.charAt(i) & 255;
            }
            x.feed(w, to - from);
        }
    }

    static WhatWasHers lived(String text) {
        WhatWasHers x = new WhatWasHers();
        live(x, text);
        return x;
    }

    /** Feeds and reads a text that has no FAULT. */
    static void live(WhatWasHers x, String text) {
        tell(x, text);
        long events = x.life();
        if (events < 0) {
            throw new IllegalStateException("a FAULT in a test's text: " + text + ": " + events);
        }
    }
}
