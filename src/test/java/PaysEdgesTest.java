/** The sentences of promises 27 to 30, and of the Terms under them, that name a boundary case. */
public final class PaysEdgesTest {
    private static final Check CHECK = new Check("PaysEdgesTest");
    private static final int MIN = Integer.MIN_VALUE, MAX = Integer.MAX_VALUE;

    private static void due(String call, long got, long want) {
        CHECK.due(call, got, want);
    }

    private static void refused(String call, Look.Made made, Look.Asked asked, long want) {
        CHECK.refused(call, made, asked, want);
    }

    private static void pays(OneIsTwo x, String what, int which, long total) {
        due(what + ", which", x.pays(0, 0), which);
        due(what + ", TOTAL", x.pays(0, 1), total);
    }

    public static void main(String[] args) {
        paysRefused();
        theFirstThatIsLeast();
        whatHasNoRoom();
        lenderRefused();
        lenderFull();
        lender();
        seed();
        call();
        CHECK.close();
    }

    private static void paysRefused() {
        CHECK.sentence(27, "TOTAL then, cut (1). BAD; STATE: he isn't AWAKE.");
        for (int p : new int[] {MIN, -1, 9, MAX}) refused("pays(" + p + ", 0)", Made::rich, x -> x.pays(p, 0), -1);
        for (int what : new int[] {MIN, -1, 2, MAX}) {
            refused("pays(0, " + what + ")", Made::rich, x -> x.pays(0, what), -1);
        }
        for (int p : new int[] {Made.ASLEEP, Made.ENDED_COPY, Made.JOINED_AWAY}) {
            refused("pays(" + p + ", 0)", Made::rich, x -> x.pays(p, 0), -4);
            refused("BAD ahead of STATE", Made::rich, x -> x.pays(p, 2), -1);
        }
        for (int p : new int[] {Made.FIRST, Made.HALF, Made.JOINED, Made.COPY}) {
            // It only asks what would be: nothing is changed by an answer either.
            refused("pays(" + p + ", 0)", Made::rich, x -> x.pays(p, 0) >= 0 ? 1 : 0, 1);
        }
    }

    private static OneIsTwo owing(String law, int... worths) {
        OneIsTwo x = new OneIsTwo();
        x.born();
        for (int worth : worths) x.claim(0, 0, worth);
        Check.law(x, law);
        return x;
    }

    private static void theFirstThatIsLeast() {
        CHECK.sentence(Document.TERMS,
                "the first by which his TOTAL of debts (4 + q: that of who comes) is least, cut.");
        pays(owing(""), "no debts: nothing", 0, 0);
        pays(owing("", 1), "to be ended", 3, 0);
        pays(owing("owes copy;", 1), "to be copied", 1, 0);
        pays(owing("owes copy if kind = 3;", 1), "to be copied by half", 2, 0);
        pays(owing("owes shared;", 1), "1/2 is cut to 0", 1, 0);
        pays(owing("owes shared;", 2), "2/2 is not", 3, 0);
        pays(owing("owes shared if kind = 3;", 1), "3/4 is cut to 0", 2, 0);
        pays(owing("owes shared if kind = 3;", 2), "6/4 is not", 3, 0);
        OneIsTwo x = owing("owes shared;", 1);
        x.copied(0, 2, 1, 0, true);
        pays(x, "1/2 is 0 already", 0, 0);
        pays(owing("owes copy if gap = 0;", 5), "MOMENT this DAY", 1, 0);
        OneIsTwo y = owing("owes copy if gap = 0 and day = 7; leave needed;", 5);
        y.later(6);
        pays(y, "not on this DAY", 3, 0);
        y.later(1);
        pays(y, "MOMENT this DAY, with leave", 1, 0);
        pays(owing("owes copy if kind = 3; owes all if kind = 2;", 9999, 9999), "the second of all", 2, 0);
        CHECK.sentence(Document.TERMS, "of what a PERSON could do now");
        OneIsTwo z = new OneIsTwo();
        for (int p = 0; p < 3; p++) z.born();
        for (int p = 1; p <= 2; p++) z.claim(0, p, 5);
        z.copied(1, 2, 1, 0, true);
        z.join(0, 2);
        z.later(1);
        Check.law(z, "owes copy if day = 0;");
        for (int p = 3; p <= 4; p++) {
            due("as he came from others than the first of all, " + p, z.pays(p, 0), 3);
            due("he owes something, " + p, z.total(p, 0, 0), 5);
        }
    }

    /** 18 EVENTS; of a debt worth so much a half is his. */
    private static OneIsTwo withoutEvents(int worth) {
        OneIsTwo x = owing("owes shared if made = 1;", worth);
        for (int p = 1; p <= 8; p++) {
            x.copied(0, 2, 1, 0, true);
            if (p > 1) x.end(p);
        }
        x.born();
        x.born();
        return x;
    }

    private static void whatHasNoRoom() {
        CHECK.sentence(Document.TERMS, "(What has no room, or can't be, isn't tried.)");
        due("no room for EVENTS", withoutEvents(3).many(2), 18);
        pays(withoutEvents(4), "nothing can be done: 4/2", 0, 2);
        pays(withoutEvents(3), "nothing can be done: 3/2, cut", 0, 1);
        pays(withoutEvents(2), "nothing can be done: 2/2", 0, 1);
        pays(withoutEvents(1), "nothing can be done: 1/2, cut", 0, 0);
        OneIsTwo x = owing("owes copy;", 1);
        for (int p = 1; p < 11; p++) x.born();
        pays(x, "room for one PERSON", 1, 0);
        x.born();
        pays(x, "no room for PERSONS: to be ended", 3, 0);
        OneIsTwo y = owing("owes copy;", 1);
        for (int p = 1; p <= 8; p++) {
            y.copied(0, 2, 1, 0, false);
            y.end(p);
        }
        pays(y, "room for one EVENT", 1, 0);
        y.born();
        pays(y, "no room for EVENTS", 0, 1);
    }

    private static OneIsTwo withClaims(int many) {
        OneIsTwo x = Made.rich();
        while (x.many(3) < many) x.claim(1, 0, 5);
        return x;
    }

    private static void lenderRefused() {
        CHECK.sentence(28, "LENDER, copied n (0 to 4) times.");
        for (int n : new int[] {MIN, -1, 5, MAX}) {
            refused("copied " + n + " times", Made::rich, x -> x.lender(0, n, 0), -1);
        }
        OneIsTwo x = owing("owes shared;");
        long[] below = {1, 2, 2, 2, 2};
        for (int n = 0; n <= 4; n++) due("copied " + n + " times", x.lender(0, n, 1), below[n]);
        CHECK.sentence(28, "BAD: no such PERSON, n, part; STATE: he isn't AWAKE; FULL: no room.");
        for (int p : new int[] {MIN, -1, 9, MAX}) {
            refused("lender(" + p + ", 0, 0)", Made::rich, y -> y.lender(p, 0, 0), -1);
        }
        for (int part : new int[] {MIN, -1, 2, MAX}) refused("part " + part, Made::rich, y -> y.lender(0, 0, part), -1);
        for (int p : new int[] {Made.ASLEEP, Made.ENDED_COPY, Made.JOINED_AWAY}) {
            refused("lender(" + p + ", 0, 0)", Made::rich, y -> y.lender(p, 0, 0), -4);
            refused("BAD ahead of STATE", Made::rich, y -> y.lender(p, 5, 0), -1);
            refused("STATE ahead of FULL", () -> withClaims(12), y -> y.lender(p, 0, 0), -4);
        }
        for (int p : new int[] {Made.FIRST, Made.HALF, Made.JOINED, Made.COPY}) {
            refused("it is only asked of " + p, Made::rich, y -> y.lender(p, 3, 0), 1);
        }
        refused("BAD ahead of FULL", () -> withClaims(12), y -> y.lender(0, 0, 2), -1);
    }

    private static void lenderFull() {
        CHECK.sentence(28, "FULL: no room.");
        due("room for a CLAIM", withClaims(11).lender(0, 0, 0), 1);
        refused("no room for a CLAIM", () -> withClaims(12), x -> x.lender(0, 0, 0), -2);
        due("room for three PERSONS", Made.rich().lender(0, 3, 0), 1);
        refused("no room for four PERSONS", Made::rich, x -> x.lender(0, 4, 0), -2);
        due("no PERSONS are asked for", Made.withTwelve().lender(0, 0, 0), 1);
        refused("no room for PERSONS", Made::withTwelve, x -> x.lender(0, 1, 0), -2);
        due("room for one EVENT", Made.withOneEventLeft().lender(0, 1, 0), 1);
        refused("no room for two EVENTS", Made::withOneEventLeft, x -> x.lender(0, 2, 0), -2);
        due("no EVENTS are asked for", Made.withNoEventLeft().lender(0, 0, 0), 1);
        refused("no room for EVENTS", Made::withNoEventLeft, x -> x.lender(0, 1, 0), -2);
    }

    private static void lender() {
        CHECK.sentence(Document.TERMS, "the greatest SHARE of it that any PERSON has then.");
        String[] laws = {"owes first;", "owes copy;", "owes shared;", "owes all;"};
        for (String law : laws) {
            OneIsTwo x = owing(law);
            due(law + " copied never", x.lender(0, 0, 0), 1);
            due(law + " copied never, below", x.lender(0, 0, 1), 1);
            due(law + " copied four times", x.lender(0, 4, 0), 1);
            due(law + " copied four times, below", x.lender(0, 4, 1), law.equals("owes shared;") ? 2 : 1);
        }
        OneIsTwo x = owing("owes shared; leave needed;", 9999);
        x.later(3);
        x.copied(0, 3, 3, 3, true);
        due("his other debts count nothing", x.lender(0, 1, 1), 2);
        due("MOMENT this DAY, with leave", x.lender(1, 1, 1), 2);
        Check.law(x, "owes shared if amount = 1 and held = 1;");
        due("worth 1, behind all others", x.lender(0, 1, 1), 2);
        Check.law(x, "owes shared if made = 2 or made = 5;");
        due("of PERSONS 2 to 4 one alone takes his part", x.lender(0, 3, 1), 2);
        due("of PERSONS 2 to 5 two do, and the first has most", x.lender(0, 4, 1), 2);
    }

    private static void seed() {
        CHECK.sentence(29, "z becomes v: what it was.");
        CHECK.sentence(Document.TERMS, "z (an int; 1 at first)");
        OneIsTwo x = new OneIsTwo();
        int was = 1;
        for (int v : new int[] {0, -1, -2, -3, -4, MAX, MIN, MIN + 1, 1}) {
            due("seed(" + v + ")", x.seed(v), was);
            was = v;
        }
        due("at last", x.seed(0), 1);
    }

    private static void call() {
        CHECK.sentence(30, "NONE: nobody is AWAKE (z stays).");
        refused("nobody at all", OneIsTwo::new, x -> x.call(), -3);
        refused("one asleep, one ended", () -> {
            OneIsTwo x = new OneIsTwo();
            x.born();
            x.copied(0, 5, 1, 0, true);
            x.end(0);
            x.seed(77);
            return x;
        }, x -> x.call(), -3);
        CHECK.sentence(Document.TERMS,
                "of the AWAKE ones by numbers the (z >>> 16) % (how many these are) -th (from 0).");
        OneIsTwo x = new OneIsTwo();
        x.born();
        for (int i = 0; i < 20; i++) due("one alone", x.call(), 0);
        x.born();
        x.copied(0, 5, 1, 0, true);
        x.copied(0, 2, 1, 0, true);
        x.born();
        x.end(1);
        int[] awake = {0, 3, 4};
        // From each of these z goes far above and below what an int holds.
        for (int v : new int[] {0, 1, -1, MAX, MIN, 2000000000, -2000000000, 12345, 65535, 65536, -65536}) {
            x.seed(v);
            int z = v * 1103515245 + 12345;
            due("z was " + v, x.call(), awake[(int) ((z & 0xffffffffL) >> 16) % 3]);
            due("z becomes", x.seed(z), z);
        }
        int first = 0;
        int last = 0;
        for (int i = 0; i < 60; i++) {
            int p = x.call();
            if (p == 0) first++;
            if (p == 4) last++;
            due("someone AWAKE", p == 0 || p == 3 || p == 4 ? 1 : 0, 1);
        }
        due("the first of all is called, too", first > 0 ? 1 : 0, 1);
        due("the last of all is called, too", last > 0 ? 1 : 0, 1);
    }
}
