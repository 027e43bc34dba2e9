import java.util.Random;

/** Runs of nearly 512 calls, the same ones each time, answered by the class and by the Model. */
public final class RandomRunsTest {
    private static final Check CHECK = new Check("RandomRunsTest");
    private static final int RUNS = Integer.getInteger("runs", 500);

    private final Random random;
    private final OneIsTwo x = new OneIsTwo();
    private final Model m = new Model();
    private final int run;
    private final boolean wild;
    private int asked;

    private RandomRunsTest(int run) {
        this.run = run;
        random = new Random(run);
        wild = run % 5 == 0;
    }

    public static void main(String[] args) {
        for (int run = 0; run < RUNS; run++) new RandomRunsTest(run).run512();
        CHECK.close();
    }

    private int to(int n) {
        return random.nextInt(n);
    }

    /** Mostly from 0 to n - 1, at times a little or far outside. */
    private int near(int n) {
        int dice = to(wild ? 12 : 40);
        if (dice == 0) return to(3) == 0 ? random.nextInt() : n + to(3);
        if (dice == 1) return -1 - to(3);
        return to(Math.max(1, n));
    }

    private int anyone() {
        return near(m.people());
    }

    private void due(int i, String call, long got, long want) {
        asked++;
        CHECK.due("run " + run + ", call " + i + ", " + call, got, want);
    }

    /** A law may take 27 calls; behind the 512th an object may answer what it likes. */
    private void run512() {
        int warm = 3 + to(8);
        for (int i = 0; asked <= 512 - 11 - 27; i++) {
            if (i < warm) change(i);
            else if (to(10) < 3) change(i);
            else ask(i);
        }
        for (int what = 0; what <= 10; what++) due(asked, "many", x.many(what), m.many(what));
    }

    private void change(int i) {
        int p = anyone();
        int q = anyone();
        // Ends and new ones come less often, so that the few events last for a while.
        switch (m.people() == 0 ? 0 : to(30)) {
            case 0: due(i, "born", x.born(), m.born()); break;
            case 1: case 2: case 3: case 4: {
                int kind = to(12) == 0 ? near(8) : new int[] {2, 3, 5}[to(3)];
                int part = kind == 3 && to(10) > 0 ? 1 + to(3) : near(5);
                int moment = to(4) == 0 ? near(m.day + 1) : Math.max(0, m.day - to(3));
                boolean leave = to(3) > 0;
                due(i, "copied", x.copied(p, kind, part, moment, leave), m.copied(p, kind, part, moment, leave));
                break;
            }
            case 5: due(i, "wake", x.wake(p), m.wake(p)); break;
            case 6: case 7: sleeper(i); break;
            case 8: due(i, "join", x.join(p, q), m.join(p, q)); break;
            case 9: if (to(2) == 0) due(i, "end", x.end(p), m.end(p)); break;
            case 10: case 11: case 12: law(i); break;
            case 13: case 14: {
                int sort = near(2);
                int worth = to(3) == 0 ? near(10001) : 1 + to(12);
                due(i, "claim", x.claim(sort, p, worth), m.claim(sort, p, worth));
                break;
            }
            case 15: case 16: due(i, "deed", x.deed(p), m.deed(p)); break;
            case 17: case 18: due(i, "wed", x.wed(p, q), m.wed(p, q)); break;
            case 19: case 20: {
                int n = to(12) == 0 ? near(120) : 1 + to(4);
                due(i, "later", x.later(n), m.later(n));
                break;
            }
            case 21: if (to(3) == 0) due(i, "keep", x.keep(), m.keep()); break;
            case 22: if (to(3) == 0) due(i, "again", x.again(), m.again()); break;
            case 23: {
                int v = random.nextInt();
                due(i, "seed", x.seed(v), m.seed(v));
                break;
            }
            default: host(i);
        }
    }

    private void sleeper(int i) {
        for (int p = 0; p < m.people(); p++) {
            if (m.kind(p) != 5) continue;
            due(i, "wake", x.wake(p), m.wake(p));
            return;
        }
    }

    private void host(int i) {
        int sheet = near(4);
        int n = near(12);
        switch (to(5)) {
            case 0: {
                int sort = near(6) - 1;
                int size = to(6) == 0 ? near(43) : to(5);
                due(i, "sheet", x.sheet(sheet, sort, size), m.sheet(sheet, sort, size));
                break;
            }
            case 1: case 2: {
                int v = to(2) == 0 ? to(20) : random.nextInt() >> to(32);
                int at = near(5);
                due(i, "put", x.put(sheet, at, v), m.put(sheet, at, v));
                break;
            }
            case 3: {
                int what = near(4);
                due(i, "shelf", x.shelf(sheet, what, n), m.shelf(sheet, what, n));
                break;
            }
            default: {
                int p = anyone();
                int at = near(4);
                int many = near(4);
                due(i, "debts", x.debts(p, sheet, at, many), m.debts(p, sheet, at, many));
            }
        }
    }

    private void law(int i) {
        String text = RandomTexts.text(random);
        for (int k = 0; k < text.length(); k += 8) {
            long eight = random.nextLong();
            int n = Math.min(8, text.length() - k);
            for (int b = 0; b < n; b++) {
                eight &= ~(255L << 8 * b);
                eight |= (long) text.charAt(k + b) << 8 * b;
            }
            due(i, "feed", x.feed(eight, n), m.feed(eight, n));
        }
        int bad = near(9);
        if (bad < 1 || bad > 8) due(i, "feed", x.feed(0, bad), m.feed(0, bad));
        due(i, "law '" + text + "'", x.law(), m.law());
    }

    private void ask(int i) {
        int p = anyone();
        int q = anyone();
        int claim = near(m.claims.size());
        int deed = near(m.deeds.size());
        int two = near(2);
        int what;
        switch (to(24)) {
            case 0: what = near(9); due(i, "person " + what, x.person(p, what), m.person(p, what)); break;
            case 1: due(i, "kin", x.kin(p), m.kin(p)); break;
            case 2: due(i, "common", x.common(p, q), m.common(p, q)); break;
            case 3: what = near(7); due(i, "says", x.says(what, p), m.says(what, p)); break;
            case 4: what = near(4); due(i, "claimOf", x.claimOf(claim, what), m.claimOf(claim, what)); break;
            case 5: case 6: due(i, "share", x.share(p, claim, two), m.share(p, claim, two)); break;
            case 7: what = near(2); due(i, "total", x.total(p, what, two), m.total(p, what, two)); break;
            case 8: due(i, "remembers", x.remembers(p, deed), m.remembers(p, deed)); break;
            case 9: due(i, "blame", x.blame(deed), m.blame(deed)); break;
            case 10: case 11: due(i, "wedTo", x.wedTo(p), m.wedTo(p)); break;
            case 12: due(i, "votes", x.votes(p, two), m.votes(p, two)); break;
            case 13: due(i, "rooted", x.rooted(p), m.rooted(p)); break;
            case 14: due(i, "apart", x.apart(p, q), m.apart(p, q)); break;
            case 15: if (to(4) == 0) due(i, "fewest", x.fewest(two), m.fewest(two)); break;
            case 16: if (to(4) == 0) due(i, "pays", x.pays(p, two), m.pays(p, two)); break;
            case 17: what = near(5); due(i, "lender", x.lender(p, what, two), m.lender(p, what, two)); break;
            case 18: due(i, "call", x.call(), m.call()); break;
            case 19: rows(i, claim); break;
            case 20: {
                int sheet = near(4);
                int at = near(5);
                what = near(5);
                due(i, "item", x.item(sheet, what, at), m.item(sheet, what, at));
                break;
            }
            case 21: what = near(15); due(i, "taken", x.taken(p & 3, what), m.taken(p & 3, what)); break;
            case 22: {
                int shelf = near(4);
                int act = near(4);
                int arg = random.nextInt() >> to(32);
                due(i, "act " + act, x.act(shelf, act, arg), m.act(shelf, act, arg));
                for (int k = -1; k < 9; k++) due(i, "trace", x.trace(k), m.trace(k));
                break;
            }
            default: what = near(11); due(i, "many", x.many(what), m.many(what));
        }
    }

    private void rows(int i, int claim) {
        if (to(2) == 0) due(i, "prove", x.prove(claim), m.prove(claim));
        int at = near(m.rows.size());
        int what = near(3);
        due(i, "row", x.row(at, what), m.row(at, what));
        if (to(3) == 0) {
            long v = to(5);
            due(i, "alterRow", x.alterRow(at, what, v), m.alterRow(at, what, v));
        }
        due(i, "judge", x.judge(claim), m.judge(claim));
    }
}
