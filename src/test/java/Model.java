import java.math.BigInteger;
import java.util.ArrayList;
import java.util.Arrays;
import java.util.List;
import java.util.TreeMap;
import java.util.regex.Matcher;
import java.util.regex.Pattern;

/** A second telling of the document: slow, with all of the library, word by word. */
final class Model {
    static final int NONE = -1000000;
    static final long NOT = -9000000000000000000L;

    /** An answer that is no ordinary one. */
    static final class Refused extends RuntimeException {
        final long answer;

        Refused(long answer) {
            super(null, null, false, false);
            this.answer = answer;
        }
    }

    record Fraction(BigInteger above, BigInteger below) {
        Fraction {
            BigInteger common = above.gcd(below);
            if (common.signum() != 0) {
                if (below.signum() < 0) {
                    common = common.negate();
                }
                above = above.divide(common);
                below = below.divide(common);
            }
        }

        static Fraction of(long a, long b) {
            return new Fraction(BigInteger.valueOf(a), BigInteger.valueOf(b));
        }

        static Fraction of(long a) {
            return of(a, 1);
        }

        Fraction plus(Fraction f) {
            return new Fraction(above.multiply(f.below).add(f.above.multiply(below)),
                below.multiply(f.below));
        }

        Fraction times(Fraction f) {
            return new Fraction(above.multiply(f.above), below.multiply(f.below));
        }

        Fraction minus(Fraction f) {
            return plus(f.times(of(-1)));
        }

        Fraction by(Fraction f) {
            return new Fraction(above.multiply(f.below), below.multiply(f.above));
        }

        boolean atLeast(long n) {
            return above.compareTo(below.multiply(BigInteger.valueOf(n))) >= 0;
        }

        long cut() {
            return above.divide(below).longValueExact();
        }

        long part(int what) {
            return (what == 0 ? above : below).longValueExact();
        }
    }

    record Law(List<String> places, String mix, String owe, String move, int hundredths) { }

    /** A life's event; number is that in the life, or -1 for one that is only thought. */
    record Event(int number, String word, int day, String way, int a, int b, int c) { }

    record Put(int purse, int sum, int weight) { }

    static final class Thing {
        Event origin;
        int way;
        List<Integer> purses = new ArrayList<>();
        int reason;
        int fellBy;
        int atCome;
        int worth;
        List<Put> puts = new ArrayList<>();

        int purse() {
            return purses.get(purses.size() - 1);
        }

        boolean fedByAnother() {
            return puts.stream().anyMatch(p -> p.purse() != purse());
        }
    }

    /** All that stands behind some events. */
    static final class Stand {
        List<Law> laws;
        int law;
        TreeMap<Integer, Integer> agreements = new TreeMap<>();
        List<Thing> things = new ArrayList<>();
        int[] debts = new int[3];

        Stand(List<Law> laws, List<Event> events) {
            this.laws = laws;
            for (Event e : events) {
                go(e);
            }
        }

        private void go(Event e) {
            switch (e.word) {
                case "come" -> {
                    Thing t = new Thing();
                    t.origin = e;
                    t.way = List.of("brought", "given", "earned", "heired").indexOf(e.way);
                    t.atCome = e.b;
                    t.worth = e.b;
                    things.add(t);
                    fall(t, e, 0);
                }
                case "buy" -> {
                    Thing t = new Thing();
                    t.origin = e;
                    t.way = 4;
                    t.worth = e.a + e.b + e.c;
                    int[] sums = {e.a, e.b, e.c};
                    for (int p = 0; p < 3; p++) {
                        if (sums[p] > 0) {
                            t.puts.add(new Put(p, sums[p], t.worth));
                        }
                    }
                    things.add(t);
                    fall(t, e, 0);
                }
                case "put" -> {
                    Thing t = things.get(e.a);
                    t.worth += e.c;
                    t.puts.add(new Put(e.b, e.c, t.worth));
                }
                case "now" -> things.get(e.a).worth = e.b;
                case "owes" -> debts[e.a] += e.b;
                case "land" -> {
                    law = e.a;
                    if (laws.get(law).move.equals("all")) {
                        things.forEach(t -> fall(t, e, 2));
                    }
                }
                case "agree" -> agreements.put(e.a, e.b);
                default -> throw new IllegalStateException(e.word);
            }
        }

        private void fall(Thing t, Event by, int reason) {
            Integer agreed = agreements.get(t.way);
            t.fellBy = by.number;
            t.reason = agreed != null ? 1 : reason;
            t.purses.add(agreed != null ? agreed : byLaw(t));
        }

        private int byLaw(Thing t) {
            Law l = laws.get(law);
            if (t.way < 4) {
                return l.places.get(t.way).equals("own") ? t.origin.a : 2;
            }
            int[] sums = {t.origin.a, t.origin.b, t.origin.c};
            long payers = Arrays.stream(sums).filter(s -> s > 0).count();
            if (l.mix.equals("both") && payers > 1) {
                return 2;
            }
            int greatest = Arrays.stream(sums).max().getAsInt();
            for (int p = 0; p < 3; p++) {
                if (sums[p] == greatest) {
                    return p;
                }
            }
            throw new IllegalStateException();
        }

        Law lawThen() {
            return laws.get(law);
        }

        long has(int p) {
            return of(p).stream().mapToLong(t -> t.worth).sum() - debts[p];
        }

        long came(int p) {
            return of(p).stream().mapToLong(t -> t.atCome
                + t.puts.stream().mapToLong(Put::sum).sum()).sum();
        }

        List<Thing> of(int p) {
            return things.stream().filter(t -> t.purse() == p).toList();
        }

        long fed(int p, int q) {
            return of(q).stream().flatMap(t -> t.puts.stream()).filter(u -> u.purse() == p)
                .mapToLong(Put::sum).sum();
        }

        Fraction part(int p, int q) {
            long came = came(q);
            return Fraction.of(fed(p, q), came == 0 ? 1 : came);
        }

        long claims(int p, int q) {
            long all = 0;
            for (Thing t : of(q)) {
                for (Put u : t.puts) {
                    long grown = (long) u.sum * t.worth / u.weight;
                    if (u.purse == p) {
                        all += switch (lawThen().owe) {
                            case "sums" -> u.sum;
                            case "worth" -> grown;
                            case "less" -> Math.min(u.sum, grown);
                            case "more" -> Math.max(u.sum, grown);
                            default -> throw new IllegalStateException();
                        };
                    }
                }
            }
            return all;
        }

        boolean byParts() {
            return lawThen().owe.equals("parts");
        }

        Fraction owed(int p, int q) {
            return byParts() ? part(p, q).times(nets()[q]) : Fraction.of(claims(p, q));
        }

        Fraction[] nets() {
            Fraction[][] rows = new Fraction[3][4];
            for (int p = 0; p < 3; p++) {
                Arrays.fill(rows[p], Fraction.of(0));
                rows[p][p] = Fraction.of(1);
                rows[p][3] = Fraction.of(has(p));
            }
            for (int p = 0; p < 3; p++) {
                for (int q = 0; q < 3; q++) {
                    if (p == q) {
                        continue;
                    }
                    if (byParts()) {
                        rows[p][q] = rows[p][q].minus(part(p, q));
                        rows[q][q] = rows[q][q].plus(part(p, q));
                    } else {
                        Fraction claim = Fraction.of(claims(p, q));
                        rows[p][3] = rows[p][3].plus(claim);
                        rows[q][3] = rows[q][3].minus(claim);
                    }
                }
            }
            return solve(rows);
        }

        private static Fraction[] solve(Fraction[][] rows) {
            for (int k = 0; k < 3; k++) {
                int pivot = k;
                while (rows[pivot][k].above.signum() == 0) {
                    pivot++;
                }
                Fraction[] swapped = rows[k];
                rows[k] = rows[pivot];
                rows[pivot] = swapped;
                for (int r = 0; r < 3; r++) {
                    if (r != k) {
                        Fraction factor = rows[r][k].by(rows[k][k]);
                        for (int s = 0; s < 4; s++) {
                            rows[r][s] = rows[r][s].minus(factor.times(rows[k][s]));
                        }
                    }
                }
            }
            Fraction[] answer = new Fraction[3];
            for (int k = 0; k < 3; k++) {
                answer[k] = rows[k][3].by(rows[k][k]);
            }
            return answer;
        }

        Fraction end(int who) {
            int hers = lawThen().hundredths;
            Fraction[] nets = nets();
            return nets[who].plus(nets[2].times(Fraction.of(who == 0 ? hers : 100 - hers, 100)));
        }
    }

    /** A text read by rules; a FAULT is thrown as its answer. */
    static final class Text {
        private static final Pattern TOKEN =
            Pattern.compile("[ \n]*(?:([a-z]+)|([0-9]+)|(;)|($)|(.))", Pattern.DOTALL);
        final List<Law> laws = new ArrayList<>();
        final List<Event> events = new ArrayList<>();
        private final Matcher token;
        private int things;
        private int fault;
        private int place;

        Text(String text) {
            token = TOKEN.matcher(text);
            token.find();
        }

        int fault() {
            return fault;
        }

        void read() {
            do {
                law();
            } while ("law".equals(token.group(1)));
            while (token.group(4) == null) {
                event();
            }
        }

        private void law() {
            if (laws.size() == 4 && "law".equals(token.group(1))) {
                fail(3);
            }
            word("law");
            List<String> places = new ArrayList<>();
            for (int k = 0; k < 4; k++) {
                places.add(word("own", "both"));
            }
            laws.add(new Law(places, word("most", "both"),
                word("sums", "parts", "worth", "less", "more"), word("stays", "all"),
                number(0, 100)));
            semicolon();
        }

        private void event() {
            List<String> words = List.of("come", "buy", "put", "now", "owes", "land", "agree");
            String name = token.group(1);
            boolean brings = "come".equals(name) || "buy".equals(name);
            if (words.contains(name == null ? "" : name)
                && (events.size() == 30 || brings && things == 10)) {
                fail(3);
            }
            name = word(words.toArray(new String[0]));
            int number = events.size();
            int day = number(number == 0 ? 0 : events.get(number - 1).day, 999);
            String way = null;
            int a = 0;
            int b = 0;
            int c = 0;
            switch (name) {
                case "come":
                    way = word("brought", "given", "earned", "heired");
                    a = number(0, 1);
                    b = number(1, 99);
                    break;
                case "buy":
                    a = number(0, 99);
                    b = number(0, 99);
                    c = number(a + b == 0 ? 1 : 0, 99);
                    break;
                case "put":
                    a = number(0, things - 1);
                    b = number(0, 2);
                    c = number(1, 99);
                    break;
                case "now":
                    a = number(0, things - 1);
                    b = number(0, 99);
                    break;
                case "owes":
                    a = number(0, 2);
                    b = number(1, 99);
                    break;
                case "land":
                    a = number(0, laws.size() - 1);
                    break;
                default:
                    a = number(0, 4);
                    b = number(0, 2);
                    break;
            }
            semicolon();
            events.add(new Event(number, name, day, way, a, b, c));
            things += brings ? 1 : 0;
        }

        private String word(String... words) {
            String name = token.group(1);
            if (name == null || !Arrays.asList(words).contains(name)) {
                fail(1);
            }
            token.find();
            return name;
        }

        private int number(int least, int most) {
            String figures = token.group(2);
            if (figures == null || figures.length() > 3) {
                fail(1);
            }
            int number = Integer.parseInt(figures);
            if (number < least || number > most) {
                fail(2);
            }
            token.find();
            return number;
        }

        private void semicolon() {
            if (token.group(3) == null) {
                fail(1);
            }
            token.find();
        }

        private void fail(int number) {
            fault = number;
            for (int g = 1; g <= 5; g++) {
                if (token.group(g) != null) {
                    place = token.start(g);
                }
            }
            throw new Refused(NOT - 100 - place);
        }
    }

    private final Integer[][] rows = new Integer[8][];
    private final int[] lanes = new int[8];
    private String tape = "";
    private int latestFault;
    private int finding;
    private List<Law> laws = new ArrayList<>();
    private List<Event> events = new ArrayList<>();
    private Stand stand;
    private List<Integer> trace = new ArrayList<>();

    private static void bad(boolean is) {
        if (is) {
            throw new Refused(NOT - 1);
        }
    }

    private void needLife() {
        if (stand == null) {
            throw new Refused(NOT - 2);
        }
    }

    private void find(boolean is, int number) {
        if (is) {
            finding = number;
            throw new Refused(NOT - 10 - number);
        }
    }

    private static boolean out(int n, int least, int most) {
        return n < least || n > most;
    }

    private List<Thing> things() {
        return stand == null ? List.of() : stand.things;
    }

    private Thing thingAt(int n) {
        bad(out(n, 0, things().size() - 1));
        return things().get(n);
    }

    long row(int row, int lane, int n) {
        bad(out(row, 0, 7) || out(lane, 0, 2) || n > 40);
        find(n < 0, 4);
        rows[row] = new Integer[n];
        Arrays.fill(rows[row], 0);
        lanes[row] = lane;
        finding = 0;
        return n;
    }

    long set(int row, int i, int v) {
        bad(out(row, 0, 7));
        find(rows[row] == null, 1);
        find(out(i, 0, rows[row].length - 1), 2);
        rows[row][i] = switch (lanes[row]) {
            case 0 -> (int) (byte) v;
            case 1 -> (int) (short) v;
            default -> v;
        };
        finding = 0;
        return rows[row][i];
    }

    long copy(int a, int i, int b, int j, int n) {
        bad(out(a, 0, 7) || out(b, 0, 7));
        find(rows[a] == null || rows[b] == null, 1);
        find(lanes[a] != lanes[b], 5);
        find(i < 0 || j < 0 || n < 0 || (long) i + n > rows[a].length
            || (long) j + n > rows[b].length, 2);
        Integer[] before = rows[a].clone();
        for (int k = 0; k < n; k++) {
            rows[b][j + k] = before[i + k];
        }
        finding = 0;
        return n;
    }

    long drop(int row) {
        bad(out(row, 0, 7));
        find(rows[row] == null, 1);
        int n = rows[row].length;
        rows[row] = null;
        finding = 0;
        return n;
    }

    long feed(long w, int n) {
        bad(out(n, 1, 8));
        if (tape.length() + n > 500) {
            throw new Refused(NOT - 3);
        }
        for (int k = n - 1; k >= 0; k--) {
            tape += (char) (w >> 8 * k & 255);
        }
        return tape.length();
    }

    long life() {
        Text text = new Text(tape);
        tape = "";
        try {
            text.read();
        } catch (Refused r) {
            latestFault = text.fault();
            throw r;
        }
        laws = text.laws;
        events = text.events;
        stand = new Stand(laws, events);
        return events.size();
    }

    long fault() {
        return latestFault;
    }

    long whose(int thing, int day) {
        thingAt(thing);
        bad(out(day, 0, 999));
        List<Thing> then = new Stand(laws, events.stream().filter(e -> e.day <= day).toList()).things;
        return thing < then.size() ? then.get(thing).purse() : NONE;
    }

    long thing(int thing, int what) {
        Thing t = thingAt(thing);
        bad(out(what, 0, 6));
        int[] told = {t.purse(), t.reason, t.origin.number, t.fellBy, t.worth, t.puts.size(), t.way};
        return told[what];
    }

    long judge(int row, int i) {
        bad(out(row, 0, 7));
        needLife();
        find(rows[row] == null, 1);
        find(i < 0 || (long) i + things().size() > rows[row].length, 2);
        long first = NONE;
        for (int t = things().size() - 1; t >= 0; t--) {
            bad(out(rows[row][i + t], 0, 2));
            if (rows[row][i + t] != things().get(t).purse()) {
                first = t;
            }
        }
        finding = 0;
        return first;
    }

    long purse(int purse, int what) {
        bad(out(purse, 0, 2) || out(what, 0, 3));
        if (stand == null) {
            return 0;
        }
        long[] told = {stand.has(purse), stand.came(purse), stand.debts[purse],
            stand.of(purse).size()};
        return told[what];
    }

    long fed(int p, int q) {
        bad(out(p, 0, 2) || out(q, 0, 2) || p == q);
        return stand == null ? 0 : stand.fed(p, q);
    }

    long owed(int p, int q, int what) {
        bad(out(p, 0, 2) || out(q, 0, 2) || p == q || out(what, 0, 1));
        needLife();
        return stand.owed(p, q).part(what);
    }

    long net(int purse, int what) {
        bad(out(purse, 0, 2) || out(what, 0, 1));
        needLife();
        return stand.nets()[purse].part(what);
    }

    long end(int who, int what) {
        bad(out(who, 0, 1) || out(what, 0, 1));
        needLife();
        return stand.end(who).part(what);
    }

    long beside(int law, int day, int what) {
        needLife();
        bad(out(law, 0, laws.size() - 1) || out(day, 0, 999) || out(what, 0, 1));
        List<Event> other = new ArrayList<>(events);
        int at = (int) events.stream().filter(e -> e.day < day).count();
        other.add(at, new Event(-1, "land", day, null, law, 0, 0));
        return new Stand(laws, other).end(0).part(what);
    }

    long hangs() {
        needLife();
        long is = stand.end(0).cut();
        long best = -1;
        long answer = NONE;
        for (Event e : events) {
            if (!List.of("put", "now", "owes", "agree").contains(e.word)) {
                continue;
            }
            List<Event> other = new ArrayList<>(events);
            other.remove(e);
            long far = Math.abs(new Stand(laws, other).end(0).cut() - is);
            if (far > best) {
                best = far;
                answer = e.number;
            }
        }
        return answer;
    }

    long beforehand(int hers, int his) {
        bad(out(hers, -9999, 9999) || out(his, -9999, 9999));
        needLife();
        if (stand.end(0).atLeast(hers) && stand.end(1).atLeast(his)) {
            return 15;
        }
        for (int k = 0; k < 15; k++) {
            List<Event> other = new ArrayList<>(events);
            other.add(0, new Event(-1, "agree", 0, null, k / 3, k % 3, 0));
            Stand s = new Stand(laws, other);
            if (s.end(0).atLeast(hers) && s.end(1).atLeast(his)) {
                return k;
            }
        }
        return NONE;
    }

    private static boolean is(Thing t, int kind) {
        boolean own = t.purse() != 2;
        return switch (kind) {
            case 0 -> true;
            case 1 -> own;
            case 2 -> !own;
            case 3 -> own && t.fedByAnother();
            case 4 -> own && t.fedByAnother() && t.purses.get(0) != t.purse();
            default -> !own && t.way == 4;
        };
    }

    private static int told(Thing t) {
        int kind = 5;
        while (!is(t, kind)) {
            kind--;
        }
        return kind;
    }

    long kind(int thing) {
        return told(thingAt(thing));
    }

    long as(int thing, int kind) {
        Thing t = thingAt(thing);
        bad(out(kind, 0, 5));
        find(!is(t, kind), 3);
        finding = 0;
        return thing;
    }

    long ask(int thing, int what) {
        Thing t = thingAt(thing);
        bad(out(what, 0, 1));
        trace = new ArrayList<>();
        return asked(t, what);
    }

    private long asked(Thing t, int what) {
        int[][] bodies = {{10, 11, 14, 12, 13, 14}, {20, 21, 20, 21, 23, 22}};
        return body(t, bodies[what][told(t)]);
    }

    private long body(Thing t, int body) {
        trace.add(body);
        return switch (body) {
            case 10 -> t.worth;
            case 11 -> body(t, 10) + asked(t, 1);
            case 12 -> body(t, 11) - t.puts.size();
            case 13 -> body(t, 12) * 2;
            case 14 -> body(t, 10) * 3;
            case 20 -> things().indexOf(t);
            case 21 -> body(t, 20) + 10 * t.purse();
            case 22 -> body(t, 20) + asked(t, 0);
            case 23 -> body(t, 21) + 100;
            default -> throw new IllegalStateException();
        };
    }

    long trace(int i) {
        return out(i, 0, Math.min(16, trace.size()) - 1) ? NONE : trace.get(i);
    }

    long count(int what) {
        bad(out(what, 0, 6));
        return switch (what) {
            case 0 -> Arrays.stream(rows).filter(r -> r != null).count();
            case 1 -> laws.size();
            case 2 -> events.size();
            case 3 -> things().size();
            case 4 -> things().stream().mapToLong(t -> t.puts.size()).sum();
            case 5 -> tape.length();
            default -> stand == null ? NONE : stand.law;
        };
    }

    long status() {
        return finding;
    }
}
