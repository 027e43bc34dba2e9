import java.math.BigInteger;
import java.util.ArrayList;
import java.util.List;
import java.util.Map;
import java.util.TreeSet;
import java.util.function.Predicate;

/**
 * The document once more, as plainly as its words stand, with the whole Java library and without a thought for room:
 * RandomRunsTest holds the class against it. All that can be is worked out anew from what was told.
 */
final class Model {
    static final Map<String, List<String>> VALUES = Map.of(
            "owes", List.of("first", "copy", "shared", "all"), "owns", List.of("first", "copy", "shared", "all"),
            "blame", List.of("body", "memory", "root"), "vote", List.of("each", "root", "share"),
            "wed", List.of("maker", "copy", "both", "none"), "leave", List.of("free", "needed"),
            "sleep", List.of("rests", "bears"));
    static final List<String> KEYS = List.of("owes", "owns", "blame", "vote", "wed", "leave", "sleep");
    static final List<String> FACTS = List.of("day", "made", "gap", "kind", "amount", "held");

    record Fraction(BigInteger above, BigInteger below) {
        static final Fraction NONE = of(0, 1), ONE = of(1, 1);

        static Fraction of(long above, long below) {
            return new Fraction(BigInteger.valueOf(above), BigInteger.valueOf(below));
        }

        Fraction plus(Fraction that) {
            return new Fraction(above.multiply(that.below).add(that.above.multiply(below)), below.multiply(that.below));
        }

        Fraction times(long top, long bottom) {
            return new Fraction(above.multiply(BigInteger.valueOf(top)), below.multiply(BigInteger.valueOf(bottom)));
        }

        boolean isAbove(Fraction that) {
            return above.multiply(that.below).compareTo(that.above.multiply(below)) > 0;
        }

        Fraction oneAtMost() {
            return isAbove(ONE) ? ONE : this;
        }

        boolean isNone() {
            return above.signum() == 0;
        }

        long cut() {
            return above.divide(below).longValueExact();
        }

        long part(int part) {
            BigInteger by = above.gcd(below);
            return (part == 0 ? above : below).divide(by).longValueExact();
        }
    }

    record Event(String what, int who, int other, int comes, int day, int kind, int part, int moment, boolean leave) { }

    record Told(int sort, int p, int q, int worth, int day, int after) { }

    record Clause(String key, String value, Predicate<int[]> cond) { }

    record Kept(int day, List<Event> events, List<Told> claims, List<Told> deeds, List<Told> weddings,
            List<Clause> law, int z) { }

    static final class Fault extends Exception {
        final int place;

        Fault(int place) {
            super(null, null, false, false);
            this.place = place;
        }
    }

    int day;
    List<Event> events = new ArrayList<>();
    List<Told> claims = new ArrayList<>(), deeds = new ArrayList<>(), weddings = new ArrayList<>();
    List<Clause> law = new ArrayList<>();
    int z = 1;
    Kept kept;
    StringBuilder tape = new StringBuilder();
    List<long[]> rows = new ArrayList<>();
    int[] sheetSort = {-1, -1, -1, -1};
    long[][] sheets = new long[4][];
    /** What a shelf holds: {0, person}, {1, claim}, {10 + sort, size} or null. */
    int[][] shelves = new int[4][];
    List<Integer> trace = new ArrayList<>();

    // ---- persons

    List<Event> comings() {
        return events.stream().filter(e -> e.comes >= 0).toList();
    }

    int people() {
        return comings().size();
    }

    Event coming(int p) {
        return comings().get(p);
    }

    int kindBehind(int p, int many) {
        int kind = -1;
        for (Event e : events.subList(0, many)) {
            if (e.comes == p) kind = e.kind;
            if (e.what.equals("join") && (e.who == p || e.other == p)) kind = 6;
            if (e.what.equals("end") && e.who == p) kind = 6;
            if (e.what.equals("wake") && e.who == p) kind = 2;
        }
        return kind;
    }

    int kind(int p) {
        return kindBehind(p, events.size());
    }

    boolean awake(int p) {
        return kind(p) >= 1 && kind(p) <= 4;
    }

    int awakes() {
        int n = 0;
        for (int p = 0; p < people(); p++) if (awake(p)) n++;
        return n;
    }

    boolean is(int p) {
        return p >= 0 && p < people();
    }

    boolean isCopy(int p) {
        return coming(p).what.equals("copy");
    }

    boolean isVoid(int p) {
        return isCopy(p) && !coming(p).leave && says("leave", facts(coming(p), null)).equals("needed");
    }

    int root(int p) {
        return coming(p).what.equals("first") ? p : root(coming(p).who);
    }

    boolean isOf(int p, int q) {
        Event e = coming(p);
        if (p == q) return true;
        if (e.what.equals("first")) return false;
        return isOf(e.who, q) || e.what.equals("join") && isOf(e.other, q);
    }

    int later(int n) {
        if (n < 1 || n > 99) return -1;
        if (day + n > 999) return -2;
        return day += n;
    }

    private boolean noRoom() {
        return people() == 12 || events.size() == 18;
    }

    int born() {
        if (noRoom()) return -2;
        events.add(new Event("first", -9, -9, people(), day, 1, -9, -9, true));
        return people() - 1;
    }

    int copied(int from, int kind, int part, int moment, boolean leave) {
        if (!is(from) || !List.of(2, 3, 5).contains(kind) || moment < 0 || moment > day) return -1;
        if (kind == 3 && !List.of(1, 2, 3).contains(part)) return -1;
        if (!awake(from)) return -4;
        if (noRoom()) return -2;
        events.add(new Event("copy", from, -9, people(), day, kind, kind == 3 ? part : 2, moment, leave));
        return people() - 1;
    }

    int wake(int p) {
        if (!is(p)) return -1;
        if (kind(p) != 5) return -4;
        if (events.size() == 18) return -2;
        events.add(new Event("wake", p, -9, -1, day, coming(p).kind, 0, coming(p).moment, true));
        return 1;
    }

    int join(int p, int q) {
        if (!is(p) || !is(q) || p == q) return -1;
        if (!awake(p) || !awake(q)) return -4;
        if (noRoom()) return -2;
        events.add(new Event("join", p, q, people(), day, 4, -9, -9, true));
        return people() - 1;
    }

    int end(int p) {
        if (!is(p)) return -1;
        if (kind(p) == 6) return -4;
        if (events.size() == 18) return -2;
        events.add(new Event("end", p, -9, -1, day, 6, 0, 0, true));
        return awakes();
    }

    int into(int p) {
        for (Event e : events) if (e.what.equals("join") && (e.who == p || e.other == p)) return e.comes;
        return -9;
    }

    int person(int p, int what) {
        if (!is(p) || what < 0 || what > 8) return -1;
        Event e = coming(p);
        return List.of(kind(p), e.who, e.other, e.day, e.moment, e.part, into(p), isVoid(p) ? 1 : 0, root(p)).get(what);
    }

    int kin(int p) {
        if (!is(p)) return -1;
        int all = 0;
        for (int q = 0; q < people(); q++) if (isOf(q, p)) all += 1 << q;
        return all;
    }

    int common(int p, int q) {
        if (!is(p) || !is(q)) return -1;
        int greatest = -9;
        for (int r = 0; r < people(); r++) if (isOf(p, r) && isOf(q, r)) greatest = r;
        return greatest;
    }

    // ---- the law

    int feed(long eight, int n) {
        if (n < 1 || n > 8) return -1;
        if (tape.length() + n > 200) return -2;
        for (int i = 0; i < n; i++, eight >>= 8) tape.append((char) (eight & 0xff));
        return tape.length();
    }

    private record Token(String text, int place) { }

    private final List<Token> tokens = new ArrayList<>();
    private int next;

    private void split(String text) {
        tokens.clear();
        next = 0;
        var signs = java.util.regex.Pattern.compile("[a-z]+|[0-9]+|[^ ]", java.util.regex.Pattern.DOTALL).matcher(text);
        while (signs.find()) tokens.add(new Token(signs.group(), signs.start()));
        tokens.add(new Token("", text.length()));
    }

    private String peek() {
        return tokens.get(next).text;
    }

    private Fault fault() {
        return new Fault(tokens.get(next).place);
    }

    private String take(java.util.Collection<String> allowed) throws Fault {
        if (!allowed.contains(peek())) throw fault();
        return tokens.get(next++).text;
    }

    private Predicate<int[]> any(int open) throws Fault {
        Predicate<int[]> left = all(open);
        if (!peek().equals("or")) return left;
        next++;
        return left.or(any(open));
    }

    private Predicate<int[]> all(int open) throws Fault {
        Predicate<int[]> left = one(open);
        if (!peek().equals("and")) return left;
        next++;
        return left.and(all(open));
    }

    private Predicate<int[]> one(int open) throws Fault {
        if (peek().equals("not")) {
            next++;
            return one(open).negate();
        }
        if (peek().equals("(")) {
            if (open == 3) throw fault();
            next++;
            Predicate<int[]> inside = any(open + 1);
            take(List.of(")"));
            return inside;
        }
        String left = side();
        String sign = take(List.of("<", "=", ">"));
        String right = side();
        return facts -> {
            int way = Integer.compare(worthOf(left, facts), worthOf(right, facts));
            return sign.equals("<") ? way < 0 : sign.equals("=") ? way == 0 : way > 0;
        };
    }

    private String side() throws Fault {
        if (peek().matches("[0-9]{1,4}")) return tokens.get(next++).text;
        return take(FACTS);
    }

    private static int worthOf(String side, int[] facts) {
        return FACTS.contains(side) ? facts[FACTS.indexOf(side)] : Integer.parseInt(side);
    }

    int law() {
        List<Clause> read = new ArrayList<>();
        split(tape.toString());
        tape.setLength(0);
        try {
            while (!peek().isEmpty()) {
                if (read.size() == 10) throw fault();
                String key = take(KEYS);
                String value = take(VALUES.get(key));
                Predicate<int[]> cond = facts -> true;
                if (peek().equals("if")) {
                    next++;
                    cond = any(0);
                }
                take(List.of(";"));
                read.add(new Clause(key, value, cond));
            }
        } catch (Fault f) {
            return -100 - f.place;
        }
        law = read;
        return law.size();
    }

    private String says(String key, int[] facts) {
        String value = VALUES.get(key).get(0);
        for (Clause c : law) if (c.key.equals(key) && c.cond.test(facts)) value = c.value;
        return value;
    }

    private int[] facts(Event e, Told claim) {
        int who = e.comes >= 0 && !e.what.equals("join") ? e.comes : e.who;
        int gap = e.what.equals("copy") || e.what.equals("wake") ? coming(who).day - coming(who).moment : 0;
        int worth = claim == null ? 0 : claim.worth;
        return new int[] {e.day, who, gap, e.kind, worth, claim == null ? 0 : claims.indexOf(claim)};
    }

    private String saysNow(String key, int p) {
        return says(key, new int[] {day, people(), 0, kind(p), 0, 0});
    }

    int says(int key, int p) {
        if (key < 0 || key > 6 || !is(p)) return -1;
        return VALUES.get(KEYS.get(key)).indexOf(saysNow(KEYS.get(key), p));
    }

    // ---- claims

    int claim(int sort, int p, int worth) {
        if (sort < 0 || sort > 1 || !is(p) || worth < 1 || worth > 9999) return -1;
        if (!awake(p)) return -4;
        if (claims.size() == 12) return -2;
        // Records that are alike would be one and the same to indexOf, so q bears the number.
        claims.add(new Told(sort, p, claims.size(), worth, day, events.size()));
        return claims.size() - 1;
    }

    int claimOf(int claim, int what) {
        if (claim < 0 || claim >= claims.size() || what < 0 || what > 3) return -1;
        Told t = claims.get(claim);
        return List.of(t.sort, t.p, t.worth, t.day).get(what);
    }

    /** The copy who takes his place by this event beside whom he came from, or -1. */
    private int placed(Event e, int toldOn) {
        int p = e.what.equals("copy") ? e.comes : e.what.equals("wake") ? e.who : -1;
        if (p < 0 || isVoid(p) || coming(p).moment < toldOn) return -1;
        if (coming(p).kind != 5) return p;
        boolean bears = says("sleep", facts(coming(p), null)).equals("bears");
        return bears == e.what.equals("copy") ? p : -1;
    }

    Fraction[] shares(Told claim) {
        Fraction[] has = new Fraction[12];
        java.util.Arrays.fill(has, Fraction.NONE);
        has[claim.p] = Fraction.ONE;
        for (int i = claim.after; i < events.size(); i++) {
            Event e = events.get(i);
            int p = placed(e, claim.day);
            if (p >= 0) {
                int from = coming(p).who;
                String way = says(claim.sort == 0 ? "owes" : "owns", facts(e, claim));
                Fraction his = has[from];
                if (way.equals("copy")) {
                    has[p] = his;
                    has[from] = Fraction.NONE;
                } else if (way.equals("shared")) {
                    has[p] = his.times(coming(p).part, 4);
                    has[from] = his.times(4 - coming(p).part, 4);
                } else if (way.equals("all")) {
                    has[p] = his;
                }
            } else if (e.what.equals("join")) {
                has[e.comes] = has[e.who].plus(has[e.other]).oneAtMost();
                has[e.who] = Fraction.NONE;
                has[e.other] = Fraction.NONE;
            } else if (e.what.equals("end")) {
                Fraction his = has[e.who];
                has[e.who] = Fraction.NONE;
                int to = coming(e.who).who;
                boolean goes = isCopy(e.who) && kindBehind(to, i + 1) != 6 && kindBehind(to, i + 1) != 5;
                if (goes) has[to] = has[to].plus(his).oneAtMost();
            }
        }
        return has;
    }

    private boolean isClaim(int claim) {
        return claim >= 0 && claim < claims.size();
    }

    long share(int p, int claim, int part) {
        if (!is(p) || !isClaim(claim) || part < 0 || part > 1) return -1;
        return shares(claims.get(claim))[p].part(part);
    }

    Fraction total(int p, int sort) {
        Fraction sum = Fraction.NONE;
        for (Told c : claims) if (c.sort == sort) sum = sum.plus(shares(c)[p].times(c.worth, 1));
        return sum;
    }

    long total(int p, int sort, int part) {
        if (!is(p) || sort < 0 || sort > 1 || part < 0 || part > 1) return -1;
        return total(p, sort).part(part);
    }

    // ---- deeds, weddings, votes

    int deed(int p) {
        if (!is(p)) return -1;
        if (!awake(p)) return -4;
        if (deeds.size() == 10) return -2;
        deeds.add(new Told(0, p, -1, 0, day, 0));
        return deeds.size() - 1;
    }

    boolean knows(int p, int deed) {
        Event e = coming(p);
        Told d = deeds.get(deed);
        if (d.p == p) return true;
        if (e.what.equals("copy")) return (e.kind != 3 || deed % 2 == 0) && e.moment >= d.day && knows(e.who, deed);
        return e.what.equals("join") && (knows(e.who, deed) || knows(e.other, deed));
    }

    int remembers(int p, int deed) {
        if (!is(p) || deed < 0 || deed >= deeds.size()) return -1;
        return knows(p, deed) ? 1 : 0;
    }

    private int unlessEnded(int p) {
        return kind(p) == 6 ? 0 : 1 << p;
    }

    private int body(int p) {
        return into(p) < 0 ? p : body(into(p));
    }

    int blame(int deed) {
        if (deed < 0 || deed >= deeds.size()) return -1;
        int doer = deeds.get(deed).p;
        String way = saysNow("blame", doer);
        if (way.equals("body")) return unlessEnded(body(doer));
        if (way.equals("root")) return unlessEnded(root(doer));
        int all = 0;
        for (int p = 0; p < people(); p++) if (awake(p) && !isVoid(p) && knows(p, deed)) all |= 1 << p;
        return all;
    }

    private List<TreeSet<Integer>> sides(Told wedding) {
        List<TreeSet<Integer>> both = new ArrayList<>();
        for (int first : new int[] {wedding.p, wedding.q}) {
            TreeSet<Integer> side = new TreeSet<>(List.of(first));
            for (Event e : events.subList(wedding.after, events.size())) {
                int p = placed(e, wedding.day);
                if (p >= 0 && side.contains(coming(p).who)) {
                    String way = says("wed", facts(e, null));
                    if (way.equals("copy") || way.equals("none")) side.remove(coming(p).who);
                    if (way.equals("copy") || way.equals("both")) side.add(p);
                }
                if (e.what.equals("join")) {
                    boolean here = side.remove(e.who);
                    if (side.remove(e.other) || here) side.add(e.comes);
                }
                if (e.what.equals("end")) side.remove(e.who);
            }
            both.add(side);
        }
        return both;
    }

    int wedTo(int p) {
        if (!is(p)) return -1;
        TreeSet<Integer> all = new TreeSet<>();
        for (Told w : weddings) {
            List<TreeSet<Integer>> both = sides(w);
            if (both.get(0).contains(p)) all.addAll(both.get(1));
            if (both.get(1).contains(p)) all.addAll(both.get(0));
        }
        all.remove(p);
        return all.stream().mapToInt(q -> 1 << q).sum();
    }

    int wed(int p, int q) {
        if (!is(p) || !is(q) || p == q) return -1;
        if (!awake(p) || !awake(q) || (wedTo(p) & 1 << q) != 0) return -4;
        if (weddings.size() == 8) return -2;
        weddings.add(new Told(0, p, q, 0, day, events.size()));
        return weddings.size() - 1;
    }

    Fraction votes(int p) {
        if (!awake(p) || isVoid(p)) return Fraction.NONE;
        List<Integer> same = new ArrayList<>();
        for (int q = 0; q < people(); q++) if (root(q) == root(p) && awake(q) && !isVoid(q)) same.add(q);
        String way = saysNow("vote", p);
        if (way.equals("each")) return Fraction.ONE;
        if (way.equals("root")) return same.get(0) == p ? Fraction.ONE : Fraction.NONE;
        return Fraction.of(1, same.size());
    }

    int votes(int p, int part) {
        if (!is(p) || part < 0 || part > 1) return -1;
        return (int) votes(p).part(part);
    }

    int rooted(int root) {
        if (!is(root)) return -1;
        if (!coming(root).what.equals("first")) return -3;
        Fraction sum = Fraction.NONE;
        for (int p = 0; p < people(); p++) if (root(p) == root) sum = sum.plus(votes(p));
        return (int) sum.cut();
    }

    int apart(int p, int q) {
        if (!is(p) || !is(q)) return -1;
        for (int d = 0; d < deeds.size(); d++) if (knows(p, d) != knows(q, d)) return d;
        return -9;
    }

    private boolean tells(int set) {
        for (int p = 0; p < people(); p++) {
            for (int q = 0; q < p; q++) {
                if (kind(p) == 6 || kind(q) == 6 || apart(p, q) < 0) continue;
                boolean told = false;
                for (int d = 0; d < deeds.size(); d++) told |= (set >> d & 1) == 1 && knows(p, d) != knows(q, d);
                if (!told) return false;
            }
        }
        return true;
    }

    int fewest(int what) {
        if (what < 0 || what > 1) return -1;
        for (int many = 0; ; many++) {
            for (int set = 0; set < 1 << deeds.size(); set++) {
                if (Integer.bitCount(set) == many && tells(set)) return what == 0 ? many : set;
            }
        }
    }

    // ---- what it pays

    private Kept all() {
        return new Kept(day, List.copyOf(events), List.copyOf(claims), List.copyOf(deeds), List.copyOf(weddings),
                List.copyOf(law), z);
    }

    private void become(Kept k) {
        day = k.day;
        events = new ArrayList<>(k.events);
        claims = new ArrayList<>(k.claims);
        deeds = new ArrayList<>(k.deeds);
        weddings = new ArrayList<>(k.weddings);
        law = new ArrayList<>(k.law);
        z = k.z;
    }

    long pays(int p, int what) {
        if (!is(p) || what < 0 || what > 1) return -1;
        if (!awake(p)) return -4;
        long least = Long.MAX_VALUE;
        int best = -1;
        Kept before = all();
        for (int choice = 0; choice < 16; choice++) {
            int done = 0;
            int whose = p;
            if (choice == 1) done = copied(p, 2, 2, day, true);
            if (choice == 2) done = copied(p, 3, 1, day, true);
            if (choice == 3) done = end(p);
            if (choice >= 4) whose = done = join(p, choice - 4);
            if (done >= 0 && total(whose, 0).cut() < least) {
                least = total(whose, 0).cut();
                best = choice;
            }
            become(before);
        }
        return what == 0 ? best : least;
    }

    long lender(int p, int n, int part) {
        if (!is(p) || n < 0 || n > 4 || part < 0 || part > 1) return -1;
        if (!awake(p)) return -4;
        Kept before = all();
        int worst = claim(0, p, 1);
        for (int i = 0; i < n; i++) worst = Math.min(worst, copied(p, 2, 2, day, true));
        Fraction greatest = Fraction.NONE;
        if (worst >= 0) {
            for (Fraction f : shares(claims.get(claims.size() - 1))) if (f.isAbove(greatest)) greatest = f;
        }
        become(before);
        return worst < 0 ? -2 : greatest.part(part);
    }

    int seed(int v) {
        int was = z;
        z = v;
        return was;
    }

    int call() {
        List<Integer> awake = new ArrayList<>();
        for (int p = 0; p < people(); p++) if (awake(p)) awake.add(p);
        if (awake.isEmpty()) return -3;
        z = z * 1103515245 + 12345;
        return awake.get((z >>> 16) % awake.size());
    }

    // ---- rows

    private List<long[]> rowsOf(int claim) {
        List<long[]> all = new ArrayList<>();
        Fraction[] has = shares(claims.get(claim));
        for (int p = 0; p < has.length; p++) {
            if (!has[p].isNone()) all.add(new long[] {p, has[p].part(0), has[p].part(1)});
        }
        return all;
    }

    int prove(int claim) {
        if (!isClaim(claim)) return -1;
        rows = rowsOf(claim);
        return rows.size();
    }

    long row(int i, int what) {
        return i < 0 || i >= rows.size() || what < 0 || what > 2 ? -9 : rows.get(i)[what];
    }

    long alterRow(int i, int what, long v) {
        long was = row(i, what);
        if (i >= 0 && i < rows.size() && what >= 0 && what <= 2) rows.get(i)[what] = v;
        return was;
    }

    int judge(int claim) {
        if (!isClaim(claim)) return -1;
        List<long[]> right = rowsOf(claim);
        for (int i = 0; i < rows.size(); i++) {
            if (i >= right.size() || !java.util.Arrays.equals(rows.get(i), right.get(i))) return i + 1;
        }
        return rows.size() < right.size() ? 222 : 0;
    }

    // ---- the host

    int sheet(int sheet, int sort, int n) {
        if (sheet < 0 || sheet > 3 || sort < -1 || sort > 4 || sort >= 0 && n > 40) return -1;
        if (sort >= 0 && n < 0) return -14;
        sheetSort[sheet] = sort;
        sheets[sheet] = sort < 0 ? null : new long[n];
        return 1;
    }

    int put(int sheet, int i, int v) {
        if (sheet < 0 || sheet > 3) return -1;
        if (sheets[sheet] == null) return -11;
        if (i < 0 || i >= sheets[sheet].length) return -12;
        sheets[sheet][i] = List.of((long) (byte) v, (long) (short) v, (long) v, (long) v, v == 0 ? 0L : 1L)
                .get(sheetSort[sheet]);
        return 1;
    }

    int item(int sheet, int sort, int i) {
        if (sheet < 0 || sheet > 3 || sort < 0 || sort > 4) return -1;
        if (sheets[sheet] == null) return -11;
        if (sheetSort[sheet] != sort) return -13;
        return i < 0 || i >= sheets[sheet].length ? -12 : (int) sheets[sheet][i];
    }

    int debts(int p, int sheet, int i, int n) {
        if (!is(p) || sheet < 0 || sheet > 3 || n < 0 || n > 12) return -1;
        if (sheets[sheet] == null) return -11;
        if (sheetSort[sheet] != 1) return -13;
        int came = 0;
        for (long k = i; k < (long) i + n; k++) {
            if (k < 0 || k >= sheets[sheet].length) return -12;
            if (claim(0, p, (int) sheets[sheet][(int) k]) >= 0) came++;
        }
        return came;
    }

    int shelf(int shelf, int what, int n) {
        if (shelf < 0 || shelf > 3 || what < 0 || what > 3) return -1;
        if (what == 0 && !is(n) || what == 1 && !isClaim(n) || what == 2 && (n < 0 || n > 3)) return -1;
        shelves[shelf] = what == 3 || what == 2 && sheets[n] == null ? null
                : what == 2 ? new int[] {10 + sheetSort[n], sheets[n].length} : new int[] {what, n};
        return 1;
    }

    private int[] held(int shelf) {
        int[] h = shelves[shelf];
        if (h != null && (h[0] == 0 && !is(h[1]) || h[0] == 1 && !isClaim(h[1]))) return null;
        return h;
    }

    int taken(int shelf, int as) {
        if (shelf < 0 || shelf > 3 || as < 0 || as == 8 || as == 9 || as > 14) return -1;
        int[] h = held(shelf);
        if (h == null) return -11;
        if (h[0] >= 10) return h[0] == as ? h[1] : -13;
        List<Integer> kinds = h[0] == 1 ? List.of(7) : switch (kind(h[1])) {
            case 3, 5 -> List.of(0, 2, kind(h[1]));
            default -> List.of(0, kind(h[1]));
        };
        return kinds.contains(as) ? h[1] : -13;
    }

    private class Bearer {
        final int n, a;

        Bearer(int n, int a) {
            this.n = n;
            this.a = a;
        }

        int bears(int x) {
            trace.add(10);
            return x + a;
        }

        int knows(int x) {
            trace.add(11);
            return bears(x) * 2;
        }

        int shares(int x) {
            trace.add(12);
            return x / (a - n);
        }

        int tells(int x) {
            trace.add(13);
            return knows(x) ^ n;
        }
    }

    private class First extends Bearer {
        First(int n, int a) {
            super(n, a);
        }

        @Override int knows(int x) {
            trace.add(20);
            return super.knows(x) - 4;
        }
    }

    private class Copy extends Bearer {
        Copy(int n, int a) {
            super(n, a);
        }

        @Override int bears(int x) {
            trace.add(30);
            return super.bears(x) * 3;
        }

        @Override int tells(int x) {
            trace.add(31);
            return super.tells(x) + shares(n);
        }
    }

    private class Half extends Copy {
        Half(int n, int a) {
            super(n, a);
        }

        @Override int bears(int x) {
            trace.add(40);
            return super.bears(x) - n;
        }
    }

    private class Asleep extends Copy {
        Asleep(int n, int a) {
            super(n, a);
        }

        @Override int shares(int x) {
            trace.add(50);
            return super.shares(x + 1);
        }

        @Override int knows(int x) {
            trace.add(51);
            return 0 - super.knows(x);
        }
    }

    private class Joined extends Bearer {
        Joined(int n, int a) {
            super(n, a);
        }

        @Override int knows(int x) {
            trace.add(60);
            return super.knows(x) ^ a;
        }
    }

    private class Ended extends Bearer {
        Ended(int n, int a) {
            super(n, a);
        }

        @Override int tells(int x) {
            trace.add(70);
            return super.tells(x) * 2;
        }
    }

    private class Claim extends Bearer {
        Claim(int n, int a) {
            super(n, a);
        }

        @Override int bears(int x) {
            trace.add(80);
            return a - x;
        }

        @Override int knows(int x) {
            trace.add(81);
            return bears(x) * n;
        }

        @Override int shares(int x) {
            trace.add(82);
            return x | a;
        }

        @Override int tells(int x) {
            trace.add(83);
            return knows(x) - shares(n);
        }
    }

    int act(int shelf, int act, int x) {
        trace.clear();
        if (shelf < 0 || shelf > 3 || act < 0 || act > 3) return 0;
        int[] h = held(shelf);
        if (h == null || h[0] >= 10) return 0;
        int n = h[1];
        int a = h[0] == 0 ? coming(n).day : claims.get(n).worth;
        Bearer thing = h[0] == 1 ? new Claim(n, a) : switch (kind(n)) {
            case 1 -> new First(n, a);
            case 2 -> new Copy(n, a);
            case 3 -> new Half(n, a);
            case 4 -> new Joined(n, a);
            case 5 -> new Asleep(n, a);
            default -> new Ended(n, a);
        };
        try {
            return act == 0 ? thing.bears(x) : act == 1 ? thing.knows(x) : act == 2 ? thing.shares(x) : thing.tells(x);
        } catch (ArithmeticException partedByZero) {
            return -15;
        }
    }

    int trace(int i) {
        return i < 0 || i >= trace.size() || i >= 30 ? -3 : trace.get(i);
    }

    int many(int what) {
        if (what < 0 || what > 10) return -1;
        return List.of(people(), awakes(), events.size(), claims.size(), deeds.size(), weddings.size(), law.size(),
                rows.size(), tape.length(), Math.min(30, trace.size()), day).get(what);
    }

    // ---- kept

    int keep() {
        kept = all();
        return 1;
    }

    int again() {
        if (kept == null) return -3;
        become(kept);
        return 1;
    }
}
