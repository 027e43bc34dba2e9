/** The sentences of promises 14 to 17, and of the Terms under them, that name a boundary case. */
public final class ClaimsEdgesTest {
    private static final Check CHECK = new Check("ClaimsEdgesTest");
    private static final int MIN = Integer.MIN_VALUE, MAX = Integer.MAX_VALUE;

    private static void due(String call, long got, long want) {
        CHECK.due(call, got, want);
    }

    private static void refused(String call, Look.Made made, Look.Asked asked, long want) {
        CHECK.refused(call, made, asked, want);
    }

    private static void share(OneIsTwo x, String what, int p, long above, long below) {
        due(what + ", " + p + ", above", x.share(p, 0, 0), above);
        due(what + ", " + p + ", below", x.share(p, 0, 1), below);
    }

    public static void main(String[] args) {
        claim();
        claimOf();
        share();
        total();
        atFirstAndBehind();
        momentAndDay();
        onesAsleep();
        oneAtMost();
        whoGetsIt();
        parts();
        facts();
        lowestTerms();
        CHECK.close();
    }

    private static OneIsTwo withClaims(int many) {
        OneIsTwo x = Made.rich();
        while (x.many(3) < many) x.claim(1, 0, 5);
        return x;
    }

    private static void claim() {
        CHECK.sentence(14, "BAD: SORT");
        for (int sort : new int[] {MIN, -1, 2, MAX}) {
            refused("claim of SORT " + sort, Made::rich, x -> x.claim(sort, 0, 1), -1);
        }
        for (int sort = 0; sort <= 1; sort++) due("claim of SORT " + sort, Made.rich().claim(sort, 0, 1), 3);

        CHECK.sentence(14, "no such PERSON, worth");
        for (int p : new int[] {MIN, -1, 9, MAX}) refused("claim of " + p, Made::rich, x -> x.claim(0, p, 1), -1);
        refused("claim of nobody", OneIsTwo::new, x -> x.claim(0, 0, 1), -1);
        due("claim of the last of all", Made.rich().claim(0, 8, 1), 3);

        CHECK.sentence(Document.TERMS, "worth 1 to 9999");
        for (int worth : new int[] {MIN, -1, 0, 10000, 10001, MAX}) {
            refused("claim worth " + worth, Made::rich, x -> x.claim(0, 0, worth), -1);
        }
        for (int worth : new int[] {1, 2, 9998, 9999}) {
            OneIsTwo x = Made.rich();
            due("claim worth " + worth, x.claim(0, 0, worth), 3);
            due("it is worth", x.claimOf(3, 2), worth);
        }

        CHECK.sentence(14, "STATE: he isn't AWAKE; FULL");
        for (int p : new int[] {Made.ASLEEP, Made.ENDED_COPY, Made.JOINED_AWAY}) {
            refused("claim of " + p, Made::rich, x -> x.claim(0, p, 1), -4);
            refused("BAD ahead of STATE", Made::rich, x -> x.claim(0, p, 0), -1);
        }
        for (int p : new int[] {Made.FIRST, Made.HALF, Made.JOINED, Made.COPY}) {
            due("claim of " + p, Made.rich().claim(0, p, 1), 3);
        }
        CHECK.sentence(Document.TERMS, "CLAIMS, 12 at most, numbered as they come");
        due("the eleventh", withClaims(10).claim(0, 0, 1), 10);
        due("the twelfth", withClaims(11).claim(0, 0, 1), 11);
        refused("the thirteenth", () -> withClaims(12), x -> x.claim(0, 0, 1), -2);
        refused("STATE ahead of FULL", () -> withClaims(12), x -> x.claim(0, Made.ASLEEP, 1), -4);
        refused("BAD ahead of FULL", () -> withClaims(12), x -> x.claim(2, 0, 1), -1);
        due("no EVENT comes by a CLAIM", withClaims(12).many(2), 10);
    }

    private static void claimOf() {
        CHECK.sentence(15, "3 its DAY. BAD.");
        for (int c : new int[] {MIN, -1, 3, MAX}) refused("claimOf(" + c + ")", Made::rich, x -> x.claimOf(c, 0), -1);
        for (int what : new int[] {MIN, -1, 4, MAX}) refused("what " + what, Made::rich, x -> x.claimOf(0, what), -1);
        OneIsTwo x = Made.rich();
        int[] last = {0, Made.HALF, 9999, 4};
        for (int what = 0; what <= 3; what++) due("the last of all, " + what, x.claimOf(2, what), last[what]);
        CHECK.sentence(15, "1 whose it was at first");
        x.end(Made.HALF);
        due("he is ended", x.claimOf(2, 1), Made.HALF);
    }

    private static void share() {
        CHECK.sentence(16, "SHARE. BAD: no such PERSON, CLAIM, part.");
        for (int p : new int[] {MIN, -1, 9, MAX}) refused("share of " + p, Made::rich, x -> x.share(p, 0, 0), -1);
        for (int c : new int[] {MIN, -1, 3, MAX}) refused("share in " + c, Made::rich, x -> x.share(0, c, 0), -1);
        for (int part : new int[] {MIN, -1, 2, MAX}) refused("part " + part, Made::rich, x -> x.share(0, 0, part), -1);
        OneIsTwo x = Made.rich();
        due("the last of all in the last of all", x.share(8, 2, 0), 0);
        due("the last of all in the last of all", x.share(8, 2, 1), 1);
        due("whose it is", x.share(Made.HALF, 2, 0), 1);
        due("ended ones are asked about, too", x.share(Made.ENDED_COPY, 0, 0), 0);
    }

    private static void total() {
        CHECK.sentence(17, "TOTAL. BAD.");
        for (int p : new int[] {MIN, -1, 9, MAX}) refused("total of " + p, Made::rich, x -> x.total(p, 0, 0), -1);
        for (int sort : new int[] {MIN, -1, 2, MAX}) refused("SORT " + sort, Made::rich, x -> x.total(0, sort, 0), -1);
        for (int part : new int[] {MIN, -1, 2, MAX}) refused("part " + part, Made::rich, x -> x.total(0, 0, part), -1);
        OneIsTwo x = new OneIsTwo();
        x.born();
        due("no CLAIMS at all", x.total(0, 0, 0), 0);
        due("no CLAIMS at all, below", x.total(0, 0, 1), 1);
        for (int i = 0; i < 12; i++) x.claim(0, 0, 9999);
        due("the greatest of all", x.total(0, 0, 0), 119988);
        due("the greatest of all, below", x.total(0, 0, 1), 1);
        due("none of the other SORT", x.total(0, 1, 0), 0);
        Check.law(x, "owes shared;");
        for (int p = 1; p < 12; p++) x.copied(p - 1, 3, 3, 0, true);
        due("the smallest of all parts, above", x.total(11, 0, 0), 119988L * 177147 / 4);
        due("the smallest of all parts, below", x.total(11, 0, 1), (1 << 22) / 4);
    }

    private static OneIsTwo owing(String law) {
        OneIsTwo x = new OneIsTwo();
        x.born();
        Check.law(x, law);
        return x;
    }

    private static void atFirstAndBehind() {
        CHECK.sentence(Document.TERMS, "SHARES of a CLAIM: at first its PERSON has 1, others 0. By EVENTS behind it");
        OneIsTwo x = owing("owes all;");
        x.copied(0, 2, 1, 0, true);
        x.claim(0, 0, 1);
        share(x, "at first", 0, 1, 1);
        share(x, "the EVENT right ahead of it", 1, 0, 1);
        x.copied(0, 2, 1, 0, true);
        share(x, "the EVENT right behind it", 2, 1, 1);
        OneIsTwo y = owing("owes all;");
        y.copied(0, 2, 1, 0, true);
        y.join(0, 1);
        y.claim(0, 2, 1);
        share(y, "joined ahead of it", 2, 1, 1);
        share(y, "joined ahead of it", 0, 0, 1);
    }

    private static void momentAndDay() {
        CHECK.sentence(Document.TERMS, "if he isn't VOID, and his MOMENT is the DAY of the CLAIM or behind it");
        for (int moment = 0; moment <= 4; moment++) {
            OneIsTwo x = owing("owes all; leave needed;");
            x.later(2);
            x.claim(0, 0, 1);
            x.later(2);
            x.copied(0, 2, 1, moment, true);
            share(x, "CLAIM on 2, MOMENT " + moment, 1, moment < 2 ? 0 : 1, 1);
            x.copied(0, 2, 1, moment, false);
            share(x, "without leave", 2, 0, 1);
            Check.law(x, "owes all;");
            share(x, "without leave, but free", 2, moment < 2 ? 0 : 1, 1);
            x.copied(0, 5, 1, moment, true);
            x.wake(3);
            share(x, "woken", 3, moment < 2 ? 0 : 1, 1);
        }
    }

    private static void onesAsleep() {
        CHECK.sentence(Document.TERMS,
                "or one of KIND 5, if sleep says bears; or one of KIND 5 wakes who came when sleep said rests "
                + "(by the law on the EVENT of his coming)");
        for (int day = 2; day <= 4; day++) {
            OneIsTwo x = owing("owes shared; sleep bears if day > 3;");
            x.claim(0, 0, 1);
            x.later(day);
            x.copied(0, 5, 1, day, true);
            share(x, "asleep on " + day, 1, day > 3 ? 1 : 0, day > 3 ? 2 : 1);
            x.later(5);
            share(x, "still asleep", 1, day > 3 ? 1 : 0, day > 3 ? 2 : 1);
            x.wake(1);
            share(x, "awake", 1, 1, 2);
            share(x, "awake", 0, 1, 2);
        }
    }

    private static OneIsTwo twoWith(int partOfOne, int partOfOther, String law) {
        OneIsTwo x = owing(law);
        x.claim(0, 0, 1);
        x.copied(0, 3, partOfOne, 0, true);
        x.copied(0, 3, partOfOther, 0, true);
        return x;
    }

    private static void oneAtMost() {
        CHECK.sentence(Document.TERMS, "Two are joined: who comes has both SHARES together, 1 at most; these 0.");
        OneIsTwo x = twoWith(1, 3, "owes shared;");
        x.join(1, 2);
        share(x, "1/4 and 9/16", 3, 13, 16);
        share(x, "these", 1, 0, 1);
        share(x, "these", 2, 0, 1);
        x.join(0, 3);
        share(x, "3/16 and 13/16: 1", 4, 1, 1);
        String law = "owes all if made = 1; owes shared if made > 1;";
        x = twoWith(1, 1, law);
        x.join(0, 1);
        share(x, "3/4 and 1: 1 at most", 3, 1, 1);
        share(x, "these", 0, 0, 1);
        x = twoWith(1, 1, "owes all;");
        x.join(0, 1);
        share(x, "1 and 1: 1 at most", 3, 1, 1);
        x.join(3, 2);
        share(x, "once more", 4, 1, 1);

        CHECK.sentence(Document.TERMS, "(so that he has both together, 1 at most)");
        x = twoWith(1, 1, law);
        x.end(2);
        share(x, "3/4 and 1/4: 1", 0, 1, 1);
        x = twoWith(1, 1, law);
        x.end(1);
        share(x, "3/4 and 1: 1 at most", 0, 1, 1);
        x = twoWith(1, 1, "owes shared;");
        x.end(1);
        share(x, "9/16 and 1/4", 0, 13, 16);
        share(x, "he himself", 1, 0, 1);
    }

    private static void whoGetsIt() {
        CHECK.sentence(Document.TERMS, "his SHARE goes to the one he came FROM, if he is a copy (asleep ones, too), "
                + "and that one is AWAKE then");
        int[] kinds = {2, 3, 5};
        for (int kind : kinds) {
            OneIsTwo x = owing("owes shared; sleep bears;");
            x.claim(0, 0, 1);
            x.copied(0, kind, 2, 0, true);
            share(x, "KIND " + kind, 1, 1, 2);
            x.end(1);
            share(x, "KIND " + kind + " gives it back", 0, 1, 1);
        }
        CHECK.sentence(Document.TERMS, "else it is lost.");
        OneIsTwo x = owing("owes shared;");
        x.claim(0, 0, 1);
        x.copied(0, 2, 1, 0, true);
        x.end(0);
        share(x, "a first", 0, 0, 1);
        share(x, "nothing to his copy", 1, 1, 2);
        x.end(1);
        share(x, "the one he came FROM is ended", 0, 0, 1);
        share(x, "the one he came FROM is ended", 1, 0, 1);

        OneIsTwo y = owing("owes shared;");
        y.claim(0, 0, 1);
        y.copied(0, 2, 1, 0, true);
        y.born();
        y.join(0, 2);
        y.end(1);
        share(y, "the one he came FROM was joined", 3, 1, 2);
        share(y, "the one he came FROM was joined", 0, 0, 1);
        y.end(3);
        for (int p = 0; p <= 3; p++) share(y, "a joined one is no copy", p, 0, 1);

        OneIsTwo z = owing("owes shared;");
        z.claim(0, 0, 1);
        z.copied(0, 5, 1, 0, true);
        z.wake(1);
        z.end(1);
        share(z, "one who woke is a copy", 0, 1, 1);

        // He was AWAKE as the copy was ended; that he is ended now counts nothing.
        OneIsTwo w = owing("owes copy;");
        w.claim(0, 0, 1);
        w.copied(0, 2, 1, 0, true);
        w.copied(1, 2, 1, 0, true);
        w.end(2);
        w.end(1);
        share(w, "from copy to copy", 0, 1, 1);
    }

    private static void parts() {
        CHECK.sentence(Document.TERMS, "shared: PART fourths of it come to him, the rest stays");
        long[][] his = {{1, 4}, {1, 2}, {3, 4}};
        long[][] rest = {{3, 4}, {1, 2}, {1, 4}};
        for (int part = 1; part <= 3; part++) {
            OneIsTwo x = owing("owes shared;");
            x.claim(0, 0, 1);
            x.copied(0, 3, part, 0, true);
            share(x, "PART " + part, 1, his[part - 1][0], his[part - 1][1]);
            share(x, "PART " + part, 0, rest[part - 1][0], rest[part - 1][1]);
        }
        OneIsTwo x = owing("owes shared;");
        x.claim(0, 0, 1);
        for (int p = 1; p < 12; p++) x.copied(0, 3, 1, 0, true);
        share(x, "eleven times a fourth goes", 0, 177147, 1 << 22);
        share(x, "a fourth of what was left", 11, 59049, 1 << 22);
        OneIsTwo y = owing("owes shared;");
        y.claim(0, 0, 1);
        for (int p = 1; p < 12; p++) y.copied(p - 1, 3, 1, 0, true);
        share(y, "eleven times a fourth of a fourth", 11, 1, 1 << 22);
    }

    private static void facts() {
        CHECK.sentence(Document.TERMS,
                "for a copy (and as he wakes) how much his DAY of coming is above his MOMENT, else 0");
        for (int moment = 3; moment <= 5; moment++) {
            OneIsTwo x = owing("owes all if gap = 1; owes shared if gap = 0;");
            x.claim(0, 0, 1);
            x.later(5);
            x.copied(0, 2, 1, moment, true);
            share(x, "MOMENT " + moment, 1, moment > 3 ? 1 : 0, moment > 4 ? 2 : 1);
            OneIsTwo y = owing("owes all if gap = 1; owes shared if gap = 0;");
            y.claim(0, 0, 1);
            y.later(5);
            y.copied(0, 5, 1, moment, true);
            y.later(1);
            y.wake(1);
            share(y, "woken, MOMENT " + moment, 1, moment > 3 ? 1 : 0, moment > 4 ? 2 : 1);
        }
        CHECK.sentence(Document.TERMS, "how many CLAIMS there are ahead of that CLAIM (its number;");
        OneIsTwo x = owing("owes all if held = 0 or held = 11;");
        for (int i = 0; i < 12; i++) x.claim(0, 0, 1);
        x.copied(0, 2, 1, 0, true);
        for (int c = 0; c < 12; c++) due("CLAIM " + c, x.share(1, c, 0), c == 0 || c == 11 ? 1 : 0);
        CHECK.sentence(Document.TERMS, "what the CLAIM is worth (0, if it isn't about one)");
        OneIsTwo y = owing("owes all if amount = 1 or amount = 9999;");
        for (int worth : new int[] {1, 2, 9998, 9999}) y.claim(0, 0, worth);
        y.copied(0, 2, 1, 0, false);
        for (int c = 0; c < 4; c++) due("CLAIM " + c, y.share(1, c, 0), c == 0 || c == 3 ? 1 : 0);
        CHECK.sentence(Document.TERMS, "(leave and sleep are asked about no CLAIM.)");
        Check.law(y, "leave needed if amount > 0 or held > 0;");
        due("leave", y.person(1, 7), 0);
        Check.law(y, "leave needed if amount = 0 and held = 0;");
        due("leave", y.person(1, 7), 1);
        y.copied(0, 5, 1, 0, true);
        Check.law(y, "owes all; sleep bears if amount > 0 or held > 0;");
        due("sleep", y.share(2, 3, 0), 0);
        Check.law(y, "owes all; sleep bears if amount = 0 and held = 0;");
        due("sleep", y.share(2, 3, 0), 1);
    }

    private static void lowestTerms() {
        CHECK.sentence(Document.TERMS,
                "Fractions are told in lowest terms by parts: 0 what is above the line, 1 what is below it "
                + "(above 0; of 0 it is 1).");
        OneIsTwo x = owing("owes shared;");
        x.claim(0, 0, 4);
        x.claim(0, 0, 2);
        x.copied(0, 2, 1, 0, true);
        share(x, "2/4", 1, 1, 2);
        due("2 and 1, above", x.total(1, 0, 0), 3);
        due("2 and 1, below", x.total(1, 0, 1), 1);
        x.copied(1, 3, 1, 0, true);
        share(x, "1/8", 2, 1, 8);
        due("4/8 and 2/8, above", x.total(2, 0, 0), 3);
        due("4/8 and 2/8, below", x.total(2, 0, 1), 4);
        due("12/8 and 6/8, above", x.total(1, 0, 0), 9);
        due("12/8 and 6/8, below", x.total(1, 0, 1), 4);
        x.end(0);
        share(x, "0", 0, 0, 1);
        due("0, above", x.total(0, 0, 0), 0);
        due("0, below", x.total(0, 0, 1), 1);
    }
}
