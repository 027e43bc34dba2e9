/** The sentences of promises 1 to 10, and of the Terms under them, that name a boundary case. */
public final class PersonsEdgesTest {
    private static final Check CHECK = new Check("PersonsEdgesTest");
    private static final int MIN = Integer.MIN_VALUE, MAX = Integer.MAX_VALUE;

    private static void due(String call, long got, long want) {
        CHECK.due(call, got, want);
    }

    private static void refused(String call, Look.Made made, Look.Asked asked, long want) {
        CHECK.refused(call, made, asked, want);
    }

    public static void main(String[] args) {
        daysAndNumbers();
        kinds();
        aNewObject();
        later();
        born();
        copied();
        copiedFull();
        wake();
        join();
        end();
        person();
        kin();
        common();
        CHECK.close();
    }

    private static void daysAndNumbers() {
        CHECK.sentence(Document.TERMS, "DAY (0 at first, 999 at most)");
        OneIsTwo x = new OneIsTwo();
        due("DAY at first", x.many(10), 0);
        for (int i = 0; i < 10; i++) x.later(99);
        due("to 998", x.later(8), 998);
        due("to 999", x.later(1), 999);
        due("to 1000", x.later(1), -2);
        due("DAY at last", x.many(10), 999);
        due("comes on the last DAY", x.born(), 0);
        due("his DAY", x.person(0, 3), 999);

        CHECK.sentence(Document.TERMS, "PERSONS, 12 at most, numbered as they come");
        OneIsTwo y = new OneIsTwo();
        for (int p = 0; p < 12; p++) due("born", y.born(), p);
        due("the thirteenth", y.born(), -2);
        due("PERSONS", y.many(0), 12);
        due("ended ones take room, too", y.end(0), 11);
        due("the thirteenth", y.born(), -2);

        CHECK.sentence(Document.TERMS, "EVENTS, 18 at most");
        due("17 EVENTS", Made.withOneEventLeft().many(2), 17);
        OneIsTwo z = Made.withOneEventLeft();
        due("the eighteenth", z.end(0), 1);
        due("the nineteenth", z.end(1), -2);
        due("18 EVENTS", z.many(2), 18);
    }

    private static void kinds() {
        CHECK.sentence(Document.TERMS, "AWAKE are those of KINDS 1 to 4");
        int[] awake = {Made.FIRST, Made.COPY, Made.HALF, Made.JOINED};
        int[] not = {Made.ASLEEP, Made.ENDED_COPY};
        int[] kinds = {1, 2, 3, 4, 5, 6};
        OneIsTwo x = Made.rich();
        for (int i = 0; i < 6; i++) due("KIND", x.person(i < 4 ? awake[i] : not[i - 4], 0), kinds[i]);
        for (int p : awake) due("may claim: " + p, x.claim(0, p, 1) >= 0 ? 1 : 0, 1);
        for (int p : not) due("may claim: " + p, x.claim(0, p, 1), -4);
        due("AWAKE", x.many(1), 5);

        CHECK.sentence(Document.TERMS, "Nobody is of KIND 0.");
        for (int p = 0; p < Made.NOBODY; p++) due("KIND of " + p, x.person(p, 0) > 0 ? 1 : 0, 1);

        CHECK.sentence(Document.TERMS, "with a PART (of 3 told: 1 to 3; of others 2)");
        for (int part = 1; part <= 3; part++) {
            OneIsTwo y = Made.rich();
            due("PART told", y.person(y.copied(0, 3, part, 0, true), 5), part);
            due("PART of a copy", y.person(y.copied(0, 2, part, 0, true), 5), 2);
            due("PART of one asleep", y.person(y.copied(0, 5, part, 0, true), 5), 2);
        }

        CHECK.sentence(Document.TERMS,
                "A copy is VOID, if it came without leave, and the law says so on its EVENT (leave).");
        for (int leave = 0; leave <= 1; leave++) {
            OneIsTwo y = Made.rich();
            int p = y.copied(0, 2, 1, 0, leave == 1);
            due("free", y.person(p, 7), 0);
            y.law();
            Check.law(y, "leave needed;");
            due("needed", y.person(p, 7), 1 - leave);
            due("a first came without leave, but is no copy", y.person(0, 7), 0);
            due("nor is a joined one", y.person(Made.JOINED, 7), 0);
            Check.law(y, "leave needed if day > 4;");
            due("not on its EVENT", y.person(p, 7), 0);
            Check.law(y, "leave needed if day > 3;");
            y.later(1);
            due("on its EVENT", y.person(p, 7), 1 - leave);
        }
    }

    private static void aNewObject() {
        CHECK.sentence(1, "DAY 0, no PERSONS; THE LAW has no CLAUSES; nothing is kept.");
        OneIsTwo x = new OneIsTwo();
        due("DAY", x.many(10), 0);
        due("PERSONS", x.many(0), 0);
        due("nobody is asked about", x.person(0, 0), -1);
        due("CLAUSES", x.many(6), 0);
        due("again", x.again(), -3);
        due("EVENTS", x.many(2), 0);
        due("a second object is as new", other(x), 0);
    }

    private static int other(OneIsTwo x) {
        x.born();
        Check.law(x, "owes all;");
        x.later(1);
        x.keep();
        OneIsTwo y = new OneIsTwo();
        return y.many(0) + y.many(6) + y.many(10) + (y.again() == -3 ? 0 : 1);
    }

    private static void later() {
        CHECK.sentence(2, "DAY is n (1 to 99) later: what it is. BAD");
        for (int n : new int[] {MIN, -1, 0, 100, 101, MAX}) {
            refused("later(" + n + ")", Made::rich, x -> x.later(n), -1);
        }
        OneIsTwo x = new OneIsTwo();
        due("later(1)", x.later(1), 1);
        due("later(99)", x.later(99), 100);
        due("later(98)", x.later(98), 198);

        CHECK.sentence(2, "FULL: it would be above 999.");
        Look.Made on900 = () -> onDay(900);
        Look.Made on901 = () -> onDay(901);
        due("to 999 at once", on900.make().later(99), 999);
        refused("to 1000 at once", on901, y -> y.later(99), -2);
        due("to 999", on901.make().later(98), 999);
        refused("on 999", () -> onDay(999), y -> y.later(1), -2);
        refused("BAD ahead of FULL", () -> onDay(999), y -> y.later(100), -1);
    }

    private static OneIsTwo onDay(int day) {
        OneIsTwo x = new OneIsTwo();
        x.born();
        for (int left = day; left > 0; left -= 99) x.later(Math.min(99, left));
        return x;
    }

    private static void born() {
        CHECK.sentence(3, "FULL: no room for PERSONS or EVENTS.");
        OneIsTwo x = Made.rich();
        for (int p = 9; p < 12; p++) due("room for PERSONS", x.born(), p);
        refused("no room for PERSONS", Made::withTwelve, y -> y.born(), -2);
        due("EVENTS aren't what lacks", Made.withTwelve().many(2), 13);
        due("room for one EVENT", Made.withOneEventLeft().born(), 10);
        refused("no room for EVENTS", Made::withNoEventLeft, y -> y.born(), -2);
        due("PERSONS aren't what lacks", Made.withNoEventLeft().many(0), 11);
    }

    private static int copiedAs(int from, int kind, int part, int moment) {
        return Made.rich().copied(from, kind, part, moment, true);
    }

    private static void copied() {
        CHECK.sentence(4, "BAD: no such PERSON");
        for (int p : new int[] {MIN, -1, 9, 10, MAX}) {
            refused("copied from " + p, Made::rich, x -> x.copied(p, 2, 1, 0, true), -1);
        }
        due("from the first of all", copiedAs(0, 2, 1, 0), 9);
        due("from the last of all", copiedAs(8, 2, 1, 0), 9);
        refused("from nobody at all", OneIsTwo::new, x -> x.copied(0, 2, 1, 0, true), -1);

        CHECK.sentence(4, "KIND (2, 3, 5)");
        for (int kind : new int[] {MIN, -1, 0, 1, 4, 6, 7, MAX}) {
            refused("of KIND " + kind, Made::rich, x -> x.copied(0, kind, 1, 0, true), -1);
        }
        for (int kind : new int[] {2, 3, 5}) due("of KIND " + kind, copiedAs(0, kind, 1, 0), 9);

        CHECK.sentence(4, "PART (of KIND 3: 1 to 3; of others it counts nothing)");
        for (int part : new int[] {MIN, -1, 0, 4, 5, MAX}) {
            refused("half of PART " + part, Made::rich, x -> x.copied(0, 3, part, 0, true), -1);
            due("whole of PART " + part, copiedAs(0, 2, part, 0), 9);
            due("asleep of PART " + part, copiedAs(0, 5, part, 0), 9);
        }
        for (int part = 1; part <= 3; part++) due("half of PART " + part, copiedAs(0, 3, part, 0), 9);

        CHECK.sentence(4, "MOMENT; STATE");
        for (int moment : new int[] {MIN, -1, 5, 6, MAX}) {
            refused("of MOMENT " + moment, Made::rich, x -> x.copied(0, 2, 1, moment, true), -1);
        }
        CHECK.sentence(Document.TERMS, "of a MOMENT (a DAY that has been, or this one)");
        for (int moment = 0; moment <= 4; moment++) due("of MOMENT " + moment, copiedAs(0, 2, 1, moment), 9);
        due("of a MOMENT ahead of him", copiedAs(Made.JOINED, 2, 1, 0), 9);
        OneIsTwo x = new OneIsTwo();
        x.born();
        due("of DAY 1 on DAY 0", x.copied(0, 2, 1, 1, true), -1);
        due("of DAY 0 on DAY 0", x.copied(0, 2, 1, 0, true), 1);
        x.later(1);
        due("of DAY 1 on DAY 1", x.copied(0, 2, 1, 1, true), 2);
    }

    private static void copiedFull() {
        CHECK.sentence(4, "STATE: that one isn't AWAKE");
        for (int p : new int[] {Made.ASLEEP, Made.ENDED_COPY, Made.JOINED_AWAY}) {
            refused("from " + p, Made::rich, x -> x.copied(p, 2, 1, 0, true), -4);
        }
        for (int p : new int[] {Made.FIRST, Made.HALF, Made.JOINED, Made.COPY}) {
            due("from " + p, copiedAs(p, 2, 1, 0), 9);
        }
        OneIsTwo x = Made.rich();
        x.wake(Made.ASLEEP);
        due("from one who woke", x.copied(Made.ASLEEP, 2, 1, 0, true), 9);

        CHECK.sentence(4, "isn't AWAKE; FULL");
        OneIsTwo y = Made.rich();
        for (int p = 9; p < 12; p++) due("room for PERSONS", y.copied(0, 2, 1, 0, true), p);
        refused("no room for PERSONS", Made::withTwelve, z -> z.copied(0, 2, 1, 0, true), -2);
        due("room for one EVENT", Made.withOneEventLeft().copied(0, 5, 1, 0, true), 10);
        refused("no room for EVENTS", Made::withNoEventLeft, z -> z.copied(0, 5, 1, 0, true), -2);
        refused("STATE ahead of FULL", Made::withNoEventLeft, z -> z.copied(3, 2, 1, 0, true), -4);
        refused("BAD ahead of STATE and FULL", Made::withNoEventLeft, z -> z.copied(3, 4, 1, 0, true), -1);
    }

    private static void wake() {
        CHECK.sentence(5, "One who is asleep wakes: 1. BAD");
        for (int p : new int[] {MIN, -1, 9, MAX}) refused("wake(" + p + ")", Made::rich, x -> x.wake(p), -1);
        due("wakes", Made.rich().wake(Made.ASLEEP), 1);
        OneIsTwo last = Made.rich();
        due("sleeps", last.copied(0, 5, 1, 0, true), 9);
        due("the last of all wakes", last.wake(9), 1);

        CHECK.sentence(5, "STATE: he isn't asleep; FULL");
        for (int p : new int[] {Made.FIRST, Made.COPY, Made.HALF, Made.JOINED, Made.ENDED_COPY, Made.JOINED_AWAY}) {
            refused("wake(" + p + ")", Made::rich, x -> x.wake(p), -4);
        }
        refused("he woke already", () -> {
            OneIsTwo x = Made.rich();
            x.wake(Made.ASLEEP);
            return x;
        }, x -> x.wake(Made.ASLEEP), -4);
        due("twelve PERSONS are enough to wake", Made.withTwelve().wake(Made.ASLEEP), 1);
        due("room for one EVENT", Made.withOneEventLeft().wake(2), 1);
        refused("no room for EVENTS", Made::withNoEventLeft, x -> x.wake(2), -2);
        refused("STATE ahead of FULL", Made::withNoEventLeft, x -> x.wake(0), -4);
        refused("BAD ahead of FULL", Made::withNoEventLeft, x -> x.wake(11), -1);

        CHECK.sentence(Document.TERMS, "One who is asleep wakes: his KIND is 2.");
        OneIsTwo x = Made.rich();
        due("asleep", x.person(Made.ASLEEP, 0), 5);
        x.wake(Made.ASLEEP);
        due("awake", x.person(Made.ASLEEP, 0), 2);
    }

    private static void join() {
        CHECK.sentence(6, "BAD: no such PERSONS, one and the same");
        for (int p : new int[] {MIN, -1, 9, MAX}) {
            refused("join(" + p + ", 0)", Made::rich, x -> x.join(p, 0), -1);
            refused("join(0, " + p + ")", Made::rich, x -> x.join(0, p), -1);
        }
        refused("one and the same", Made::rich, x -> x.join(0, 0), -1);
        refused("one and the same, asleep", Made::rich, x -> x.join(Made.ASLEEP, Made.ASLEEP), -1);
        due("the last of all and the first", Made.rich().join(8, 0), 9);
        due("next to one another", Made.rich().join(0, 1), 9);

        CHECK.sentence(6, "STATE: one isn't AWAKE; FULL");
        for (int p : new int[] {Made.ASLEEP, Made.ENDED_COPY, Made.JOINED_AWAY}) {
            refused("join(" + p + ", 0)", Made::rich, x -> x.join(p, 0), -4);
            refused("join(0, " + p + ")", Made::rich, x -> x.join(0, p), -4);
        }
        refused("both aren't", Made::rich, x -> x.join(Made.ASLEEP, Made.ENDED_COPY), -4);
        for (int p : new int[] {Made.HALF, Made.JOINED, Made.COPY}) {
            due("join(0, " + p + ")", Made.rich().join(0, p), 9);
        }

        OneIsTwo eleven = Made.rich();
        eleven.born();
        eleven.born();
        due("room for one PERSON", eleven.join(0, 1), 11);
        refused("no room for PERSONS", Made::withTwelve, x -> x.join(0, 1), -2);
        due("room for one EVENT", Made.withOneEventLeft().join(0, 1), 10);
        refused("no room for EVENTS", Made::withNoEventLeft, x -> x.join(0, 1), -2);
        refused("STATE ahead of FULL", Made::withNoEventLeft, x -> x.join(0, 2), -4);
        refused("BAD ahead of STATE and FULL", Made::withNoEventLeft, x -> x.join(2, 2), -1);
    }

    private static void end() {
        CHECK.sentence(7, "how many are AWAKE then");
        OneIsTwo x = new OneIsTwo();
        x.born();
        x.copied(0, 5, 1, 0, true);
        x.copied(0, 2, 1, 0, true);
        due("one asleep", x.end(1), 2);
        due("one of two", x.end(0), 1);
        due("the last one", x.end(2), 0);

        CHECK.sentence(7, "BAD; STATE: he is ended");
        for (int p : new int[] {MIN, -1, 9, MAX}) refused("end(" + p + ")", Made::rich, y -> y.end(p), -1);
        for (int p : new int[] {Made.ENDED_COPY, Made.JOINED_AWAY, Made.JOINED_AWAY + 1}) {
            refused("end(" + p + ")", Made::rich, y -> y.end(p), -4);
        }
        for (int p : new int[] {Made.FIRST, Made.HALF, Made.JOINED, Made.COPY}) {
            due("end(" + p + ")", Made.rich().end(p), 4);
        }
        due("end of one asleep", Made.rich().end(Made.ASLEEP), 5);

        CHECK.sentence(7, "FULL: no room for EVENTS.");
        due("twelve PERSONS are enough to end", Made.withTwelve().end(0), 7);
        due("room for one EVENT", Made.withOneEventLeft().end(2), 2);
        refused("no room for EVENTS", Made::withNoEventLeft, y -> y.end(0), -2);
        refused("STATE ahead of FULL", Made::withNoEventLeft, y -> y.end(3), -4);
        refused("BAD ahead of FULL", Made::withNoEventLeft, y -> y.end(11), -1);
    }

    private static void person() {
        OneIsTwo x = Made.rich();
        CHECK.sentence(8, "ROOT. BAD");
        for (int p : new int[] {MIN, -1, 9, MAX}) refused("person(" + p + ")", Made::rich, y -> y.person(p, 0), -1);
        for (int what : new int[] {MIN, -1, 9, MAX}) refused("what " + what, Made::rich, y -> y.person(0, what), -1);
        due("what 0", x.person(8, 0), 2);
        due("what 8", x.person(8, 8), 0);

        CHECK.sentence(8, "1 whom he came FROM (-9: nobody)");
        due("a first", x.person(Made.FIRST, 1), -9);
        due("a copy", x.person(Made.COPY, 1), 0);
        due("a joined one", x.person(Made.JOINED, 1), Made.JOINED_AWAY);

        CHECK.sentence(8, "2 the other one of these (-9: none)");
        due("a first", x.person(Made.FIRST, 2), -9);
        due("a copy", x.person(Made.COPY, 2), -9);
        due("a joined one", x.person(Made.JOINED, 2), Made.JOINED_AWAY + 1);

        CHECK.sentence(8, "4 MOMENT (-9: none), 5 PART (-9: none)");
        for (int p : new int[] {Made.FIRST, Made.JOINED}) {
            due("no MOMENT", x.person(p, 4), -9);
            due("no PART", x.person(p, 5), -9);
        }
        due("MOMENT 0", x.person(Made.ENDED_COPY, 4), 0);
        due("MOMENT", x.person(Made.ASLEEP, 4), 3);
        due("PART told", x.person(Made.HALF, 5), 3);
        due("PART of others", x.person(Made.ASLEEP, 5), 2);

        CHECK.sentence(8, "6 INTO whom he was joined (-9: none)");
        due("awake", x.person(Made.FIRST, 6), -9);
        due("ended, but not joined", x.person(Made.ENDED_COPY, 6), -9);
        due("joined", x.person(Made.JOINED_AWAY, 6), Made.JOINED);
        due("joined", x.person(Made.JOINED_AWAY + 1, 6), Made.JOINED);
        due("who came", x.person(Made.JOINED, 6), -9);

        CHECK.sentence(8, "7 1 if he is VOID, else 0");
        due("free", x.person(Made.ASLEEP, 7), 0);
        x.law();
        Check.law(x, "leave needed;");
        due("without leave", x.person(Made.ASLEEP, 7), 1);
        due("with leave", x.person(Made.COPY, 7), 0);
    }

    private static OneIsTwo twelveInARow() {
        OneIsTwo x = new OneIsTwo();
        x.born();
        for (int p = 1; p < 12; p++) x.copied(p - 1, 2, 1, 0, true);
        return x;
    }

    private static void kin() {
        CHECK.sentence(9, "All that are OF a PERSON, as bits. BAD.");
        for (int p : new int[] {MIN, -1, 9, MAX}) refused("kin(" + p + ")", Made::rich, x -> x.kin(p), -1);
        refused("kin of nobody", OneIsTwo::new, x -> x.kin(0), -1);
        OneIsTwo x = twelveInARow();
        due("all twelve", x.kin(0), 0xfff);
        due("all but one", x.kin(1), 0xffe);
        due("the last two", x.kin(10), 0xc00);
        due("himself alone", x.kin(11), 0x800);
        due("above", x.kin(12), -1);
    }

    private static void common() {
        CHECK.sentence(10, "The PERSON with the greatest number whom both are OF; -9: none. BAD.");
        for (int p : new int[] {MIN, -1, 9, MAX}) {
            refused("common(" + p + ", 0)", Made::rich, x -> x.common(p, 0), -1);
            refused("common(0, " + p + ")", Made::rich, x -> x.common(0, p), -1);
        }
        OneIsTwo x = Made.rich();
        due("none", x.common(0, 1), -9);
        due("none, of a joined one", x.common(Made.JOINED, 0), -9);
        due("number 0", x.common(Made.COPY, Made.ASLEEP), 0);
        due("himself", x.common(1, 1), 1);
        OneIsTwo y = twelveInARow();
        due("number 11", y.common(11, 11), 11);
        due("number 10", y.common(11, 10), 10);
        due("number 10", y.common(10, 11), 10);
        OneIsTwo z = new OneIsTwo();
        z.born();
        z.born();
        z.join(0, 1);
        z.copied(2, 2, 1, 0, true);
        z.copied(2, 2, 1, 0, true);
        due("the greatest of three", z.common(3, 4), 2);
        due("by the other one of both", z.common(3, 1), 1);
    }
}
