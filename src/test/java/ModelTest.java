import java.util.Random;

/** Random runs of calls: the program and the model answer alike. */
public final class ModelTest {
    private static final int RUNS = 1500;
    private static final int CALLS = 512;
    private static final int[] EDGES = {-1, 0, 1, 2, 3, 4, 5, 6, 7, 8, 9, 10, 15, 16, 39, 40, 41, 99,
        999, 1000, 9999, -9999, 10000, -10000, Integer.MAX_VALUE, Integer.MIN_VALUE};

    private final Checks checks = new Checks();
    private final Random random;
    private WhatWasHers x;
    private Model m;
    private final int[] n = new int[5];

    private ModelTest(long seed) {
        random = new Random(seed);
    }

    public static void main(String[] args) {
        ModelTest test = new ModelTest(20261118);
        for (int run = 0; run < RUNS; run++) {
            test.run(run);
        }
        test.checks.end();
    }

    private int up(int bound) {
        return random.nextInt(bound);
    }

    private String of(String... choices) {
        return choices[up(choices.length)];
    }

    private void run(int run) {
        x = new WhatWasHers();
        m = new Model();
        int calls = 0;
        while (calls < CALLS - 130) {
            if (up(60) == 0 || calls == 0 && up(4) > 0) {
                calls += tell(run, text());
            } else {
                call(run, up(25));
                calls++;
            }
        }
    }

    /** Feeds a text in pieces of some lengths, then reads it. */
    private int tell(int run, String text) {
        int calls = 1;
        for (int from = 0; from < text.length();) {
            int size = Math.min(text.length() - from, up(5) == 0 ? 1 + up(8) : 8);
            long w = random.nextLong();
            for (int i = from; i < from + size; i++) {
                w = w << 8 | text.charAt(i);
            }
            long word = w;
            compare(run, "feed(" + word + ", " + size + ")", x.feed(word, size),
                () -> m.feed(word, size));
            from += size;
            calls++;
        }
        compare(run, "life() of " + text, x.life(), m::life);
        compare(run, "fault() of " + text, x.fault(), m::fault);
        return calls;
    }

    private String text() {
        StringBuilder text = new StringBuilder();
        int laws = 1 + up(up(20) == 0 ? 5 : 3);
        for (int k = 0; k < laws; k++) {
            text.append("law");
            for (int way = 0; way < 4; way++) {
                text.append(gap()).append(of("own", "own", "both"));
            }
            text.append(gap()).append(of("most", "both")).append(gap())
                .append(of("sums", "parts", "parts", "worth", "less", "more"))
                .append(gap()).append(of("stays", "all")).append(up(101)).append(";");
        }
        int events = up(3) == 0 ? up(33) : up(20);
        int day = up(50);
        int things = 0;
        boolean great = up(5) == 0;
        for (int k = 0; k < events; k++) {
            int kind = things == 0 ? up(3) : great && k < 10 ? 1 : up(16);
            day += up(4) == 0 ? up(60) : 0;
            boolean brings = kind < 2 && (things < 10 || up(30) == 0);
            text.append(event(kind < 2 && !brings ? 7 : kind, day, things, laws, great));
            things += brings ? 1 : 0;
        }
        String told = text.toString();
        if (told.length() > 500) {
            int end = told.lastIndexOf(';', 499);
            told = told.substring(0, up(10) == 0 ? 500 : end + 1);
        }
        return up(4) == 0 ? spoil(told) : told;
    }

    private String gap() {
        return up(20) == 0 ? of("\n", "  ", "\n \n") : " ";
    }

    private int sum(boolean great) {
        return great && up(10) > 0 ? 99 : 1 + up(99);
    }

    private String event(int kind, int day, int things, int laws, boolean great) {
        int thing = up(Math.max(1, things));
        int purse = up(3);
        switch (kind) {
            case 0:
                return "come " + day + " " + of("brought", "given", "earned", "heired") + " "
                    + up(2) + " " + sum(great) + ";";
            case 1:
                return "buy " + day + " " + (up(3) == 0 ? 0 : sum(great)) + " "
                    + (up(3) == 0 ? 0 : sum(great)) + " " + (up(3) == 0 ? 0 : sum(great)) + ";";
            case 2:
                return things == 0 ? "owes " + day + " " + purse + " " + sum(great) + ";"
                    : "now " + day + " " + thing + " " + (up(4) == 0 ? 0 : up(100)) + ";";
            case 3:
                return "owes " + day + " " + purse + " " + sum(great) + ";";
            case 4:
                return "land " + day + " " + up(laws) + ";";
            case 5:
                return "agree " + day + " " + up(5) + " " + purse + ";";
            case 6:
                return "now " + day + " " + thing + " " + up(100) + ";";
            default:
                return "put " + day + " " + thing + " " + purse + " " + sum(great) + ";";
        }
    }

    private String spoil(String told) {
        StringBuilder text = new StringBuilder(told);
        for (int k = up(2); k >= 0 && text.length() > 0; k--) {
            int at = up(text.length());
            switch (up(6)) {
                case 0:
                    text.deleteCharAt(at);
                    break;
                case 1:
                    text.setCharAt(at, (char) up(256));
                    break;
                case 2:
                    text.insert(at, of(";", " ", "0", "9", "99", "law ", "come ", "both", "\t", "1000"));
                    break;
                case 3:
                    text.setLength(at);
                    break;
                case 4:
                    text.setCharAt(at, (char) ('0' + up(10)));
                    break;
                default:
                    int other = up(text.length());
                    char swapped = text.charAt(at);
                    text.setCharAt(at, text.charAt(other));
                    text.setCharAt(other, swapped);
                    break;
            }
        }
        return text.length() > 500 ? text.substring(0, 500) : text.toString();
    }

    /** A number that most often is one of those that may be, and now and then is not. */
    private int pick(int bound) {
        return up(12) == 0 ? EDGES[up(EDGES.length)] : up(bound);
    }

    private int rowSize() {
        return up(12) == 0 ? EDGES[up(EDGES.length)] : up(3) == 0 ? up(41) : 8 + up(8);
    }

    private interface Answer {
        long get();
    }

    private void compare(int run, String call, long got, Answer due) {
        long want;
        try {
            want = due.get();
        } catch (Model.Refused r) {
            want = r.answer;
        }
        checks.due("run " + run + ": " + call, got, want);
    }

    private void call(int run, int which) {
        for (int k = 0; k < n.length; k++) {
            n[k] = pick(3);
        }
        switch (which) {
            case 0: case 1:
                n[0] = pick(8);
                n[2] = rowSize();
                compare(run, "row", x.row(n[0], n[1], n[2]), () -> m.row(n[0], n[1], n[2]));
                break;
            case 2: case 3:
                n[0] = pick(8);
                n[1] = pick(14);
                n[2] = up(2) == 0 ? random.nextInt() : pick(3);
                compare(run, "set", x.set(n[0], n[1], n[2]), () -> m.set(n[0], n[1], n[2]));
                break;
            case 4:
                n[0] = pick(8);
                n[2] = up(3) == 0 ? n[0] : pick(8);
                n[4] = pick(12);
                compare(run, "copy", x.copy(n[0], n[1], n[2], n[3], n[4]),
                    () -> m.copy(n[0], n[1], n[2], n[3], n[4]));
                break;
            case 5:
                n[0] = up(3) == 0 ? pick(8) : 8;
                compare(run, "drop", x.drop(n[0]), () -> m.drop(n[0]));
                break;
            case 6:
                n[0] = pick(8);
                n[1] = pick(4);
                compare(run, "judge", x.judge(n[0], n[1]), () -> m.judge(n[0], n[1]));
                break;
            case 7:
                n[0] = pick(10);
                n[1] = pick(300);
                compare(run, "whose", x.whose(n[0], n[1]), () -> m.whose(n[0], n[1]));
                break;
            default:
                callOfLife(run, which);
                break;
        }
        compare(run, "status", x.status(), m::status);
    }

    private void callOfLife(int run, int which) {
        switch (which) {
            case 8: case 9:
                n[0] = pick(10);
                n[1] = pick(7);
                compare(run, "thing", x.thing(n[0], n[1]), () -> m.thing(n[0], n[1]));
                break;
            case 10:
                n[1] = pick(4);
                compare(run, "purse", x.purse(n[0], n[1]), () -> m.purse(n[0], n[1]));
                break;
            case 11:
                compare(run, "fed", x.fed(n[0], n[1]), () -> m.fed(n[0], n[1]));
                break;
            case 12: case 13:
                n[2] = pick(2);
                compare(run, "owed", x.owed(n[0], n[1], n[2]), () -> m.owed(n[0], n[1], n[2]));
                break;
            case 14:
                n[1] = pick(2);
                compare(run, "net", x.net(n[0], n[1]), () -> m.net(n[0], n[1]));
                break;
            case 15:
                n[0] = pick(2);
                n[1] = pick(2);
                compare(run, "end", x.end(n[0], n[1]), () -> m.end(n[0], n[1]));
                break;
            case 16:
                n[1] = pick(300);
                n[2] = pick(2);
                compare(run, "beside", x.beside(n[0], n[1], n[2]), () -> m.beside(n[0], n[1], n[2]));
                break;
            default:
                callBeside(run, which);
                break;
        }
    }

    private void callBeside(int run, int which) {
        switch (which) {
            case 17:
                compare(run, "hangs", x.hangs(), m::hangs);
                break;
            case 18:
                n[0] = wish(0);
                n[1] = wish(1);
                compare(run, "beforehand", x.beforehand(n[0], n[1]), () -> m.beforehand(n[0], n[1]));
                break;
            case 19:
                n[0] = pick(10);
                compare(run, "kind", x.kind(n[0]), () -> m.kind(n[0]));
                break;
            case 20:
                n[0] = pick(10);
                n[1] = pick(6);
                compare(run, "as", x.as(n[0], n[1]), () -> m.as(n[0], n[1]));
                break;
            case 21: case 22:
                n[0] = pick(10);
                n[1] = pick(2);
                compare(run, "ask", x.ask(n[0], n[1]), () -> m.ask(n[0], n[1]));
                for (int i = 0; i < 8; i++) {
                    n[0] = i;
                    compare(run, "trace", x.trace(i), () -> m.trace(n[0]));
                }
                break;
            case 23:
                n[0] = pick(7);
                compare(run, "count", x.count(n[0]), () -> m.count(n[0]));
                break;
            default:
                n[0] = pick(16);
                compare(run, "trace", x.trace(n[0]), () -> m.trace(n[0]));
                break;
        }
    }

    /** A wish near what there is, so that small shifts of purses tell. */
    private int wish(int who) {
        if (up(6) == 0) {
            return pick(400);
        }
        long below = x.end(who, 1);
        long is = below > 0 ? x.end(who, 0) / below : 0;
        return (int) is + up(5) * up(40) - (up(2) == 0 ? 3 : 60);
    }
}
