/** The sentences of promises 18 to 26, and of the Terms under them, that name a boundary case. */
public final class DeedsEdgesTest {
    private static final Check CHECK = new Check("DeedsEdgesTest");
    private static final int MIN = Integer.MIN_VALUE, MAX = Integer.MAX_VALUE;

    private static void due(String call, long got, long want) {
        CHECK.due(call, got, want);
    }

    private static void refused(String call, Look.Made made, Look.Asked asked, long want) {
        CHECK.refused(call, made, asked, want);
    }

    public static void main(String[] args) {
        deed();
        remembers();
        momentAndDay();
        halvesAndJoined();
        blame();
        bodies();
        memoryAndRoot();
        wed();
        wedFull();
        wedTo();
        sides();
        sidesOfCopies();
        votes();
        rooted();
        apart();
        fewest();
        theLeastAsBits();
        CHECK.close();
    }

    private static OneIsTwo firsts(int many) {
        OneIsTwo x = new OneIsTwo();
        for (int i = 0; i < many; i++) x.born();
        return x;
    }

    private static OneIsTwo withDeeds(int many) {
        OneIsTwo x = Made.rich();
        while (x.many(4) < many) x.deed(0);
        return x;
    }

    private static void deed() {
        CHECK.sentence(18, "A DEED: its number. BAD; STATE: he isn't AWAKE; FULL.");
        for (int p : new int[] {MIN, -1, 9, MAX}) refused("deed(" + p + ")", Made::rich, x -> x.deed(p), -1);
        refused("deed of nobody", OneIsTwo::new, x -> x.deed(0), -1);
        for (int p : new int[] {Made.ASLEEP, Made.ENDED_COPY, Made.JOINED_AWAY}) {
            refused("deed(" + p + ")", Made::rich, x -> x.deed(p), -4);
        }
        for (int p : new int[] {Made.FIRST, Made.HALF, Made.JOINED, Made.COPY}) {
            due("deed(" + p + ")", Made.rich().deed(p), 3);
        }
        CHECK.sentence(Document.TERMS, "DEEDS, 10 at most, numbered as they come");
        due("the ninth", withDeeds(8).deed(0), 8);
        due("the tenth", withDeeds(9).deed(8), 9);
        refused("the eleventh", () -> withDeeds(10), x -> x.deed(0), -2);
        refused("STATE ahead of FULL", () -> withDeeds(10), x -> x.deed(Made.ASLEEP), -4);
        refused("BAD ahead of FULL", () -> withDeeds(10), x -> x.deed(9), -1);
        due("no EVENT comes by a DEED", withDeeds(10).many(2), 10);
    }

    private static void remembers() {
        CHECK.sentence(19, "1 if a PERSON REMEMBERS a DEED, else 0. BAD.");
        for (int p : new int[] {MIN, -1, 9, MAX}) {
            refused("remembers(" + p + ", 0)", Made::rich, x -> x.remembers(p, 0), -1);
        }
        for (int d : new int[] {MIN, -1, 3, MAX}) {
            refused("remembers(0, " + d + ")", Made::rich, x -> x.remembers(0, d), -1);
        }
        refused("no DEED at all", () -> firsts(1), x -> x.remembers(0, 0), -1);
        OneIsTwo x = withDeeds(10);
        due("he did it", x.remembers(Made.HALF, 2), 1);
        due("the last of all PERSONS", x.remembers(8, 0), 1);
        due("the last of all PERSONS", x.remembers(8, 1), 0);
        due("the last of all DEEDS", x.remembers(0, 9), 1);
        due("the last of all DEEDS", x.remembers(1, 9), 0);
        CHECK.sentence(Document.TERMS, "(Ended ones, too.)");
        x = firsts(2);
        x.deed(0);
        x.copied(0, 2, 1, 0, true);
        x.join(0, 1);
        x.end(2);
        due("joined", x.remembers(0, 0), 1);
        due("ended", x.remembers(2, 0), 1);
        due("who came", x.remembers(3, 0), 1);
    }

    private static void momentAndDay() {
        CHECK.sentence(Document.TERMS,
                "a copy, if his MOMENT is its DAY or behind it, and the one he came FROM REMEMBERS it");
        for (int moment = 0; moment <= 4; moment++) {
            OneIsTwo x = firsts(2);
            x.later(2);
            x.deed(0);
            x.later(2);
            x.copied(0, 2, 1, moment, true);
            due("DEED on 2, MOMENT " + moment, x.remembers(2, 0), moment < 2 ? 0 : 1);
            x.copied(1, 2, 1, moment, true);
            due("of one who doesn't", x.remembers(3, 0), 0);
            x.copied(2, 2, 1, 4, true);
            due("of a copy", x.remembers(4, 0), moment < 2 ? 0 : 1);
            x.copied(0, 5, 1, moment, false);
            due("asleep, without leave", x.remembers(5, 0), moment < 2 ? 0 : 1);
        }
    }

    private static void halvesAndJoined() {
        CHECK.sentence(Document.TERMS, "a half (KIND he was told with) of these those with even numbers alone");
        OneIsTwo x = firsts(1);
        for (int d = 0; d < 10; d++) x.deed(0);
        x.copied(0, 3, 1, 0, true);
        x.copied(0, 2, 1, 0, true);
        for (int d = 0; d < 10; d++) {
            due("a half, DEED " + d, x.remembers(1, d), 1 - d % 2);
            due("a copy, DEED " + d, x.remembers(2, d), 1);
        }
        x.end(1);
        due("an ended half, DEED 9", x.remembers(1, 9), 0);
        due("an ended half, DEED 8", x.remembers(1, 8), 1);
        OneIsTwo y = firsts(1);
        y.deed(0);
        y.copied(0, 3, 1, 0, true);
        y.deed(1);
        due("who did it, with an odd number", y.remembers(1, 1), 1);
        CHECK.sentence(Document.TERMS, "a joined one, if one of both does.");
        OneIsTwo z = firsts(3);
        for (int p = 0; p < 3; p++) z.deed(p);
        z.join(1, 0);
        due("the other one does", z.remembers(3, 0), 1);
        due("the first one does", z.remembers(3, 1), 1);
        due("neither does", z.remembers(3, 2), 0);
    }

    private static void blame() {
        CHECK.sentence(20, "BLAME, as bits. BAD.");
        for (int d : new int[] {MIN, -1, 3, MAX}) refused("blame(" + d + ")", Made::rich, x -> x.blame(d), -1);
        refused("no DEED at all", () -> firsts(1), x -> x.blame(0), -1);
        due("the last of all", Made.rich().blame(2), 1 << Made.HALF);
        due("the first of all", Made.rich().blame(0), 1);
        OneIsTwo x = firsts(12);
        x.deed(11);
        due("the twelfth", x.blame(0), 0x800);
        x.end(11);
        due("nobody", x.blame(0), 0);
    }

    private static void bodies() {
        CHECK.sentence(Document.TERMS,
                "who did it, if he isn't ended; if he was joined, the one INTO whom, if he isn't ended, and so on; "
                + "else nobody.");
        OneIsTwo x = firsts(6);
        x.deed(0);
        due("who did it", x.blame(0), 1);
        for (int p = 0; p < 5; p++) {
            x.join(p == 0 ? 0 : 5 + p, p + 1);
            due("INTO " + (6 + p), x.blame(0), 1 << 6 + p);
        }
        x.end(10);
        due("he is ended", x.blame(0), 0);
        OneIsTwo y = firsts(1);
        y.deed(0);
        y.copied(0, 2, 1, 0, true);
        y.end(0);
        due("his copy isn't to blame", y.blame(0), 0);
    }

    private static void memoryAndRoot() {
        CHECK.sentence(Document.TERMS, "memory: all AWAKE ones who aren't VOID and REMEMBER it.");
        OneIsTwo x = firsts(2);
        x.deed(0);
        x.copied(0, 2, 1, 0, false);
        x.copied(0, 5, 1, 0, true);
        x.copied(0, 3, 1, 0, true);
        Check.law(x, "blame memory;");
        due("but one asleep", x.blame(0), 0b10101);
        Check.law(x, "blame memory; leave needed;");
        due("but one who is VOID", x.blame(0), 0b10001);
        x.wake(3);
        due("he woke", x.blame(0), 0b11001);
        x.end(4);
        due("he is ended", x.blame(0), 0b1001);
        x.end(0);
        x.end(3);
        due("nobody", x.blame(0), 0);
        CHECK.sentence(Document.TERMS, "root: the ROOT of who did it, if he isn't ended.");
        OneIsTwo y = firsts(1);
        y.copied(0, 2, 1, 0, true);
        y.copied(1, 2, 1, 0, true);
        y.deed(2);
        Check.law(y, "blame root;");
        due("the ROOT", y.blame(0), 1);
        y.end(2);
        due("who did it is ended", y.blame(0), 1);
        y.end(1);
        due("whom he came FROM is ended", y.blame(0), 1);
        y.end(0);
        due("the ROOT is ended", y.blame(0), 0);
    }

    private static void wed() {
        CHECK.sentence(21, "A WEDDING: its number. BAD: no such PERSONS, one and the same");
        for (int p : new int[] {MIN, -1, 9, MAX}) {
            refused("wed(" + p + ", 0)", Made::rich, x -> x.wed(p, 0), -1);
            refused("wed(0, " + p + ")", Made::rich, x -> x.wed(0, p), -1);
        }
        refused("one and the same", Made::rich, x -> x.wed(1, 1), -1);
        refused("one and the same, asleep", Made::rich, x -> x.wed(Made.ASLEEP, Made.ASLEEP), -1);
        due("the last of all", Made.rich().wed(8, 0), 2);

        CHECK.sentence(21, "STATE: one isn't AWAKE, or both are WED already; FULL.");
        for (int p : new int[] {Made.ASLEEP, Made.ENDED_COPY, Made.JOINED_AWAY}) {
            refused("wed(" + p + ", 8)", Made::rich, x -> x.wed(p, 8), -4);
            refused("wed(8, " + p + ")", Made::rich, x -> x.wed(8, p), -4);
        }
        refused("they are", Made::rich, x -> x.wed(0, 1), -4);
        refused("they are, the other way round", Made::rich, x -> x.wed(1, 0), -4);
        refused("a copy, by the side he is on", Made::rich, x -> x.wed(Made.HALF, Made.FIRST), -4);
        refused("a joined one, by the side he is on", Made::rich, x -> x.wed(Made.COPY, Made.JOINED), -4);
        due("both on one side", Made.rich().wed(Made.FIRST, Made.COPY), 2);
        due("both WED, but not to one another", Made.rich().wed(Made.OTHER_FIRST, Made.JOINED), 2);
        OneIsTwo x = firsts(2);
        x.wed(0, 1);
        x.copied(0, 2, 1, 0, true);
        due("by the law now they aren't", x.wed(2, 1), 1);
    }

    private static OneIsTwo withWeddings(int many) {
        OneIsTwo x = firsts(6);
        x.copied(0, 5, 1, 0, true);
        for (int i = 0; i < many; i++) x.wed(i % 3, 3 + i / 3);
        return x;
    }

    private static void wedFull() {
        CHECK.sentence(Document.TERMS, "WEDDINGS, 8 at most");
        due("the seventh", withWeddings(6).wed(0, 5), 6);
        due("the eighth", withWeddings(7).wed(1, 5), 7);
        refused("the ninth", () -> withWeddings(8), x -> x.wed(2, 5), -2);
        refused("WED already, ahead of FULL", () -> withWeddings(8), x -> x.wed(0, 3), -4);
        refused("asleep, ahead of FULL", () -> withWeddings(8), x -> x.wed(0, 6), -4);
        refused("BAD ahead of FULL", () -> withWeddings(8), x -> x.wed(2, 2), -1);
        OneIsTwo x = withWeddings(8);
        x.end(0);
        due("they take room, though one is ended", x.wed(2, 5), -2);
        due("WEDDINGS", x.many(5), 8);
    }

    private static void wedTo() {
        CHECK.sentence(22, "All WED to a PERSON, as bits. BAD.");
        for (int p : new int[] {MIN, -1, 9, MAX}) refused("wedTo(" + p + ")", Made::rich, x -> x.wedTo(p), -1);
        refused("wedTo nobody", OneIsTwo::new, x -> x.wedTo(0), -1);
        OneIsTwo x = firsts(12);
        due("nobody", x.wedTo(0), 0);
        x.wed(0, 11);
        due("the twelfth", x.wedTo(0), 0x800);
        due("the first of all", x.wedTo(11), 1);
        due("on no side", x.wedTo(1), 0);
        due("each of three", withWeddings(8).wedTo(2), 0b11000);
        due("each of three", withWeddings(8).wedTo(3), 0b111);
        due("ended ones are asked about, too", Made.rich().wedTo(Made.JOINED_AWAY), 0);
    }

    private static void sides() {
        CHECK.sentence(Document.TERMS, "all of the other sides of WEDDINGS on whose one side he is, but himself.");
        OneIsTwo x = firsts(3);
        x.wed(0, 1);
        x.join(0, 1);
        due("on both sides", x.wedTo(3), 0);
        x.wed(3, 2);
        due("and on one more", x.wedTo(3), 0b100);
        CHECK.sentence(Document.TERMS, "Joined ones on a side: who comes is there in place of them.");
        OneIsTwo y = firsts(4);
        y.wed(0, 1);
        y.join(2, 3);
        due("none of them on a side", y.wedTo(0), 0b10);
        due("none of them on a side", y.wedTo(4), 0);
        y.join(1, 4);
        due("the first one told on a side", y.wedTo(0), 0b100000);
        OneIsTwo z = firsts(3);
        z.wed(0, 1);
        z.join(2, 1);
        due("the other one on a side", z.wedTo(0), 0b1000);
        due("in place of him", z.wedTo(1), 0);
        CHECK.sentence(Document.TERMS, "An ended one isn't there any more.");
        z.end(3);
        due("nobody there", z.wedTo(0), 0);
        due("he himself", z.wedTo(3), 0);
        CHECK.sentence(Document.TERMS, "By EVENTS behind it, in order: a copy (as in 2");
        OneIsTwo w = firsts(2);
        Check.law(w, "wed both;");
        w.copied(0, 2, 1, 0, true);
        w.wed(0, 1);
        due("the EVENT right ahead of it", w.wedTo(1), 0b1);
        w.copied(0, 2, 1, 0, true);
        due("the EVENT right behind it", w.wedTo(1), 0b1001);
    }

    private static void sidesOfCopies() {
        CHECK.sentence(Document.TERMS, "by the same rule of coming, waking, VOID and MOMENT");
        for (int moment = 1; moment <= 3; moment++) {
            for (int kind : new int[] {2, 3, 5}) {
                OneIsTwo x = firsts(2);
                x.later(2);
                x.wed(0, 1);
                Check.law(x, "wed both; leave needed;");
                x.later(1);
                x.copied(0, kind, 1, moment, true);
                due("KIND " + kind + ", MOMENT " + moment, x.wedTo(1), moment < 2 || kind == 5 ? 0b1 : 0b101);
                x.wake(2);
                due("awake, MOMENT " + moment, x.wedTo(1), moment < 2 ? 0b1 : 0b101);
                x.copied(0, kind, 1, moment, false);
                due("VOID", x.wedTo(1), moment < 2 ? 0b1 : 0b101);
                Check.law(x, "wed both; leave needed; sleep bears;");
                due("sleep bears", x.wedTo(1), moment < 2 ? 0b1 : 0b101);
            }
        }
        CHECK.sentence(Document.TERMS, "none: that one isn't there any more (he neither).");
        OneIsTwo x = firsts(2);
        x.wed(0, 1);
        x.copied(0, 2, 1, 0, true);
        int[][] wedTo = {{0b10, 0b1, 0}, {0, 0b100, 0b10}, {0b10, 0b101, 0b10}, {0, 0, 0}};
        String[] laws = {"wed maker;", "wed copy;", "wed both;", "wed none;"};
        for (int i = 0; i < 4; i++) {
            Check.law(x, laws[i]);
            for (int p = 0; p < 3; p++) due(laws[i] + " " + p, x.wedTo(p), wedTo[i][p]);
        }
    }

    private static void votes() {
        CHECK.sentence(23, "VOTES. BAD: no such PERSON, part.");
        for (int p : new int[] {MIN, -1, 9, MAX}) refused("votes(" + p + ", 0)", Made::rich, x -> x.votes(p, 0), -1);
        for (int part : new int[] {MIN, -1, 2, MAX}) {
            refused("votes(0, " + part + ")", Made::rich, x -> x.votes(0, part), -1);
        }
        due("the last of all", Made.rich().votes(8, 0), 1);
        due("the last of all", Made.rich().votes(8, 1), 1);

        CHECK.sentence(Document.TERMS, "0, if he isn't AWAKE, or VOID");
        OneIsTwo x = firsts(1);
        x.copied(0, 5, 1, 0, true);
        x.copied(0, 2, 1, 0, false);
        x.copied(0, 2, 1, 0, true);
        for (String vote : new String[] {"each", "root", "share"}) {
            Check.law(x, "leave needed; vote " + vote + ";");
            for (int p = 1; p <= 2; p++) {
                due(vote + ", " + p + ", above", x.votes(p, 0), 0);
                due(vote + ", " + p + ", below", x.votes(p, 1), 1);
            }
        }
        CHECK.sentence(Document.TERMS, "if he is the least of those with his ROOT who are AWAKE and not VOID, else 0");
        Check.law(x, "leave needed; vote root;");
        due("the least", x.votes(0, 0), 1);
        due("not the least", x.votes(3, 0), 0);
        x.end(0);
        due("the least but one asleep and one who is VOID", x.votes(3, 0), 1);
        Check.law(x, "vote root;");
        due("who isn't VOID by this law", x.votes(2, 0), 1);
        due("not the least any more", x.votes(3, 0), 0);
        x.wake(1);
        due("nor he", x.votes(2, 0), 0);
        CHECK.sentence(Document.TERMS, "share: 1 by how many these are.");
        OneIsTwo y = firsts(1);
        Check.law(y, "vote share;");
        due("one alone", y.votes(0, 1), 1);
        for (int p = 1; p < 12; p++) {
            y.copied(0, 2, 1, 0, true);
            due("one of " + (p + 1) + ", above", y.votes(p, 0), 1);
            due("one of " + (p + 1) + ", below", y.votes(0, 1), p + 1);
        }
    }

    private static void rooted() {
        CHECK.sentence(24, "BAD: no such PERSON; NONE: he is no first.");
        for (int p : new int[] {MIN, -1, 9, MAX}) refused("rooted(" + p + ")", Made::rich, x -> x.rooted(p), -1);
        for (int p : new int[] {Made.COPY, Made.HALF, Made.ASLEEP, Made.JOINED, Made.ENDED_COPY}) {
            refused("rooted(" + p + ")", Made::rich, x -> x.rooted(p), -3);
        }
        due("a first", Made.rich().rooted(0), 2);
        due("a first whose ROOT all of them have", Made.rich().rooted(Made.JOINED_AWAY), 1);
        due("a first with none", Made.rich().rooted(Made.JOINED_AWAY + 1), 0);
        CHECK.sentence(24, "together, cut.");
        OneIsTwo x = firsts(1);
        for (int p = 1; p < 3; p++) x.copied(0, 3, 1, 0, true);
        Check.law(x, "vote share;");
        due("3/3", x.rooted(0), 1);
        Check.law(x, "vote share; vote root if kind = 1;");
        due("1 and 2/3", x.rooted(0), 1);
        Check.law(x, "vote share; vote root if kind = 3;");
        due("1/3 and nothing", x.rooted(0), 0);
        Check.law(x, "vote share if kind = 1;");
        due("1/3 and 2", x.rooted(0), 2);
        for (int p = 3; p < 12; p++) x.copied(0, 3, 1, 0, true);
        Check.law(x, "vote share;");
        due("12/12", x.rooted(0), 1);
        OneIsTwo y = firsts(1);
        for (int many = 1; many <= 12; many++) {
            Check.law(y, "vote share;");
            due(many + " by " + many, y.rooted(0), 1);
            Check.law(y, "vote share if kind = 2;");
            due("1 and " + (many - 1) + " by " + many, y.rooted(0), 1);
            Check.law(y, "vote share; vote root if kind = 2;");
            due("1 by " + many, y.rooted(0), many == 1 ? 1 : 0);
            y.copied(0, 2, 1, 0, true);
        }
        Check.law(x, "");
        due("12", x.rooted(0), 12);
        Check.law(x, "vote share; vote root if kind = 1;");
        due("1 and 11/12", x.rooted(0), 1);
    }

    private static void apart() {
        CHECK.sentence(25, "The least DEED that just one of two REMEMBERS; -9: none. BAD.");
        for (int p : new int[] {MIN, -1, 9, MAX}) {
            refused("apart(" + p + ", 0)", Made::rich, x -> x.apart(p, 0), -1);
            refused("apart(0, " + p + ")", Made::rich, x -> x.apart(0, p), -1);
        }
        OneIsTwo x = firsts(3);
        due("no DEED at all", x.apart(0, 1), -9);
        for (int d = 0; d < 9; d++) x.deed(2);
        due("both REMEMBER none", x.apart(0, 1), -9);
        x.deed(1);
        due("the last of all", x.apart(0, 1), 9);
        due("the last of all", x.apart(1, 0), 9);
        due("the first of all", x.apart(2, 1), 0);
        due("himself", x.apart(2, 2), -9);
        x.copied(2, 3, 1, 0, true);
        due("the first odd one", x.apart(2, 3), 1);
        x.end(3);
        due("ended ones, too", x.apart(3, 2), 1);
    }

    private static void fewest() {
        CHECK.sentence(26, "how many (what 0), as bits (1). BAD.");
        for (int what : new int[] {MIN, -1, 2, MAX}) {
            refused("fewest(" + what + ")", Made::rich, x -> x.fewest(what), -1);
        }
        due("nobody", new OneIsTwo().fewest(0), 0);
        due("nobody", new OneIsTwo().fewest(1), 0);
        OneIsTwo x = firsts(11);
        due("no DEED", x.fewest(1), 0);
        for (int p = 0; p < 10; p++) x.deed(p);
        due("all ten, how many", x.fewest(0), 10);
        due("all ten, as bits", x.fewest(1), 0x3ff);
        CHECK.sentence(Document.TERMS, "any two who aren't ended and of whom just one REMEMBERS some DEED");
        x.end(10);
        due("who REMEMBERS nothing is ended", x.fewest(0), 9);
        for (int p = 9; p > 3; p--) x.end(p);
        due("four are left", x.fewest(1), 0b111);
        OneIsTwo y = firsts(2);
        y.deed(0);
        due("two", y.fewest(1), 1);
        y.end(1);
        due("one alone", y.fewest(1), 0);
        y.copied(0, 5, 1, 0, false);
        due("two who are alike", y.fewest(1), 0);
        y.later(1);
        y.deed(0);
        due("one of them asleep", y.fewest(1), 0b10);
    }

    /** 0 REMEMBERS 0 to 2, 1 to 3 of these 0, 0 and 1, 0 and 2; 4 to 10 one DEED each, 11 none. */
    private static OneIsTwo allTwelveApart() {
        OneIsTwo x = firsts(1);
        x.deed(0);
        for (int day = 1; day <= 2; day++) {
            x.later(1);
            x.deed(0);
        }
        x.copied(0, 2, 1, 0, true);
        x.copied(0, 2, 1, 1, true);
        x.copied(0, 3, 1, 2, true);
        for (int p = 4; p <= 10; p++) x.deed(x.born());
        x.born();
        return x;
    }

    private static void theLeastAsBits() {
        CHECK.sentence(Document.TERMS, "are told apart so by one of these; of several the least as bits.");
        OneIsTwo x = firsts(10);
        for (int p = 0; p < 10; p++) x.deed(p);
        due("nine of ten", x.fewest(1), 0x1ff);
        due("66 pairs, and the last of them needs the last DEED", allTwelveApart().fewest(1), 0x3ff);
        OneIsTwo y = firsts(2);
        for (int d = 0; d < 10; d++) y.deed(0);
        due("any one", y.fewest(1), 1);
        // 0 REMEMBERS 0; 1: 1 and 2; 2: 3; 5: 2 and 3. 0, 1 and 2 would do, and so would 2 and 3, which are fewer.
        OneIsTwo z = firsts(3);
        for (int p : new int[] {0, 1, 1, 2}) z.deed(p);
        z.copied(1, 3, 1, 0, true);
        z.copied(2, 2, 1, 0, true);
        z.join(3, 4);
        due("few beat low, how many", z.fewest(0), 2);
        due("few beat low, as bits", z.fewest(1), 0b1100);
    }
}
