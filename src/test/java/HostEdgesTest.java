/** The sentences of promises 35 to 43, and of the Terms under them, that name a boundary case. */
public final class HostEdgesTest {
    private static final Check CHECK = new Check("HostEdgesTest");
    private static final int MIN = Integer.MIN_VALUE, MAX = Integer.MAX_VALUE;

    private static void due(String call, long got, long want) {
        CHECK.due(call, got, want);
    }

    private static void refused(String call, Look.Made made, Look.Asked asked, long want) {
        CHECK.refused(call, made, asked, want);
    }

    public static void main(String[] args) {
        sheetRefused();
        sheet();
        put();
        narrowed();
        item();
        debtsRefused();
        debtsOutside();
        debtsLeftOut();
        shelf();
        shelvesHold();
        taken();
        takenAs();
        act();
        actsWrap();
        partedByNothing();
        trace();
        many();
        CHECK.close();
    }

    /** SHEET 0 has 3 shorts, 1 has no bytes, 2 has 40 longs, 3 is missing. */
    private static OneIsTwo withSheets() {
        OneIsTwo x = Made.rich();
        x.sheet(1, 0, 0);
        x.sheet(2, 3, 40);
        return x;
    }

    private static void sheetRefused() {
        CHECK.sentence(35, "BAD: no such SHEET, sort, n above 40; -14.");
        for (int s : new int[] {MIN, -1, 4, MAX}) {
            refused("sheet(" + s + ", 0, 1)", HostEdgesTest::withSheets, x -> x.sheet(s, 0, 1), -1);
        }
        for (int s = 0; s <= 3; s++) due("sheet(" + s + ", 0, 1)", withSheets().sheet(s, 0, 1), 1);
        for (int sort : new int[] {MIN, -2, 5, MAX}) {
            refused("sort " + sort, HostEdgesTest::withSheets, x -> x.sheet(0, sort, 1), -1);
            refused("BAD ahead of -14", HostEdgesTest::withSheets, x -> x.sheet(0, sort, -1), -1);
        }
        for (int sort = 0; sort <= 4; sort++) {
            int as = sort;
            due("sort " + sort, withSheets().sheet(0, sort, 1), 1);
            for (int n : new int[] {41, 42, MAX}) {
                refused("n " + n, HostEdgesTest::withSheets, x -> x.sheet(0, as, n), -1);
            }
            for (int n : new int[] {-1, -2, MIN}) {
                refused("n " + n, HostEdgesTest::withSheets, x -> x.sheet(0, as, n), -14);
            }
            for (int n : new int[] {0, 1, 39, 40}) due("n " + n, withSheets().sheet(0, sort, n), 1);
        }
        refused("BAD ahead of -14", HostEdgesTest::withSheets, x -> x.sheet(4, 0, -1), -1);
    }

    private static void sheet() {
        CHECK.sentence(35, "all 0, or missing (sort -1; n counts nothing then)");
        for (int n : new int[] {MIN, -1, 0, 40, 41, MAX}) {
            OneIsTwo x = withSheets();
            due("missing, n " + n, x.sheet(0, -1, n), 1);
            due("it is", x.item(0, 1, 0), -11);
            due("once more", x.sheet(0, -1, n), 1);
        }
        CHECK.sentence(Document.TERMS, "40 at most, or missing (at first)");
        for (int s = 0; s <= 3; s++) {
            for (int sort = 0; sort <= 4; sort++) due("at first", new OneIsTwo().item(s, sort, 0), -11);
        }
        for (int sort = 0; sort <= 4; sort++) {
            OneIsTwo x = new OneIsTwo();
            x.sheet(0, sort, 40);
            for (int i = 0; i < 40; i++) due("all 0", x.item(0, sort, i), 0);
            for (int i = 0; i < 40; i++) x.put(0, i, i + 1);
            due("the last of all", x.item(0, sort, 39), sort == 4 ? 1 : 40);
            x.sheet(0, sort, 2);
            due("shorter", x.item(0, sort, 1), 0);
            due("behind its end", x.item(0, sort, 2), -12);
            x.sheet(0, sort, 40);
            for (int i = 0; i < 40; i++) due("all 0 again", x.item(0, sort, i), 0);
        }
    }

    private static void put() {
        CHECK.sentence(36, "BAD: no such SHEET; -11; -12.");
        for (int s : new int[] {MIN, -1, 4, MAX}) {
            refused("put(" + s + ", 0, 1)", HostEdgesTest::withSheets, x -> x.put(s, 0, 1), -1);
            refused("BAD ahead of -12", HostEdgesTest::withSheets, x -> x.put(s, 40, 1), -1);
        }
        for (int i : new int[] {MIN, -1, 0, 40, MAX}) {
            refused("into nothing, at " + i, HostEdgesTest::withSheets, x -> x.put(3, i, 1), -11);
        }
        for (int i : new int[] {MIN, -1, 3, 4, 39, 40, MAX}) {
            refused("at " + i + " of 3", HostEdgesTest::withSheets, x -> x.put(0, i, 1), -12);
        }
        for (int i : new int[] {-1, 0, 1}) {
            refused("at " + i + " of none", HostEdgesTest::withSheets, x -> x.put(1, i, 1), -12);
        }
        refused("at 40 of 40", HostEdgesTest::withSheets, x -> x.put(2, 40, 1), -12);
        due("at 39 of 40", withSheets().put(2, 39, 1), 1);
        for (int i = 0; i < 3; i++) due("at " + i + " of 3", withSheets().put(0, i, 1), 1);
    }

    private static void narrowed() {
        CHECK.sentence(36, "narrowed to its sort (booleans: whether it is not 0)");
        int[] puts = {0, 1, -1, 127, 128, 255, 256, -128, -129, 32767, 32768, 65535, 65536, -32768, -32769, MAX, MIN};
        int[] bytes = {0, 1, -1, 127, -128, -1, 0, -128, 127, -1, 0, -1, 0, 0, -1, -1, 0};
        int[] shorts = {0, 1, -1, 127, 128, 255, 256, -128, -129, 32767, -32768, -1, 0, -32768, 32767, -1, 0};
        OneIsTwo x = new OneIsTwo();
        for (int i = 0; i < puts.length; i++) {
            int[] wants = {bytes[i], shorts[i], puts[i], puts[i], i == 0 ? 0 : 1};
            for (int sort = 0; sort <= 4; sort++) {
                x.sheet(0, sort, 1);
                due("put " + puts[i], x.put(0, 0, puts[i]), 1);
                due("of sort " + sort, x.item(0, sort, 0), wants[sort]);
            }
        }
    }

    private static void item() {
        CHECK.sentence(37, "BAD: no such SHEET, sort; -13; -11; -12.");
        for (int s : new int[] {MIN, -1, 4, MAX}) {
            refused("item(" + s + ", 0, 0)", HostEdgesTest::withSheets, x -> x.item(s, 0, 0), -1);
        }
        for (int sort : new int[] {MIN, -1, 5, MAX}) {
            for (int s = 0; s <= 3; s++) {
                int of = s;
                refused("sort " + sort + " of " + s, HostEdgesTest::withSheets, x -> x.item(of, sort, 0), -1);
            }
        }
        for (int sort = 0; sort <= 4; sort++) {
            int as = sort;
            due("sort " + sort + " of shorts", withSheets().item(0, sort, 0), sort == 1 ? 0 : -13);
            due("sort " + sort + " of shorts, outside", withSheets().item(0, sort, 3), sort == 1 ? -12 : -13);
            due("sort " + sort + " of no bytes", withSheets().item(1, sort, 0), sort == 0 ? -12 : -13);
            for (int i : new int[] {MIN, -1, 0, MAX}) {
                refused("sort " + sort + " of nothing, at " + i, HostEdgesTest::withSheets, x -> x.item(3, as, i), -11);
            }
        }
        for (int i : new int[] {MIN, -1, 3, 4, 40, MAX}) {
            refused("at " + i + " of 3", HostEdgesTest::withSheets, x -> x.item(0, 1, i), -12);
        }
        int[] items = {0, 9, 0};
        for (int i = 0; i < 3; i++) due("at " + i + " of 3", withSheets().item(0, 1, i), items[i]);
        due("at 39 of 40", withSheets().item(2, 3, 39), 0);
        due("at 40 of 40", withSheets().item(2, 3, 40), -12);

        CHECK.sentence(37, "(An item may be as low as these, too.)");
        OneIsTwo x = withSheets();
        for (int v : new int[] {-1, -11, -12, -13}) {
            x.put(0, 2, v);
            due("as low as " + v, x.item(0, 1, 2), v);
        }
    }

    /** SHEET 0: 40 shorts, each worth 10 more than its place; SHEET 1: 2 ints; 2: no shorts; 3: missing. */
    private static OneIsTwo withShorts() {
        OneIsTwo x = new OneIsTwo();
        x.born();
        x.copied(0, 5, 1, 0, true);
        x.sheet(0, 1, 40);
        for (int i = 0; i < 40; i++) x.put(0, i, i + 10);
        x.sheet(1, 2, 2);
        x.put(1, 0, 5);
        x.sheet(2, 1, 0);
        return x;
    }

    private static void debtsRefused() {
        CHECK.sentence(38, "BAD: no such PERSON, SHEET, n; -13; -11");
        for (int p : new int[] {MIN, -1, 2, MAX}) {
            refused("of " + p, HostEdgesTest::withShorts, x -> x.debts(p, 0, 0, 1), -1);
        }
        for (int s : new int[] {MIN, -1, 4, MAX}) {
            refused("from " + s, HostEdgesTest::withShorts, x -> x.debts(0, s, 0, 1), -1);
        }
        for (int n : new int[] {MIN, -1, 13, MAX}) {
            for (int s = 0; s <= 3; s++) {
                int from = s;
                refused(n + " from " + s, HostEdgesTest::withShorts, x -> x.debts(0, from, 0, n), -1);
            }
        }
        due("12 of them", withShorts().debts(0, 0, 0, 12), 12);
        due("none of them", withShorts().debts(0, 0, 0, 0), 0);
        due("1 of them", withShorts().debts(0, 0, 0, 1), 1);
        refused("of another sort", HostEdgesTest::withShorts, x -> x.debts(0, 1, 0, 1), -13);
        refused("of another sort, ahead of -12", HostEdgesTest::withShorts, x -> x.debts(0, 1, 2, 1), -13);
        refused("from nothing", HostEdgesTest::withShorts, x -> x.debts(0, 3, 0, 1), -11);
        refused("from nothing, ahead of -12", HostEdgesTest::withShorts, x -> x.debts(0, 3, -1, 1), -11);
        for (int sort = 0; sort <= 4; sort++) {
            OneIsTwo x = withShorts();
            x.sheet(1, sort, 2);
            x.put(1, 0, 1);
            due("taken for shorts: sort " + sort, x.debts(0, 1, 0, 1), sort == 1 ? 1 : -13);
        }
    }

    private static void debtsOutside() {
        CHECK.sentence(38, "-12: what stood ahead came.");
        for (int i : new int[] {MIN, MIN + 1, -12, -1, 40, 41, MAX - 1, MAX}) {
            for (int n : new int[] {1, 2, 12}) {
                refused(n + " from " + i, HostEdgesTest::withShorts, x -> x.debts(0, 0, i, n), -12);
            }
            due("none from " + i, withShorts().debts(0, 0, i, 0), 0);
        }
        refused("from none", HostEdgesTest::withShorts, x -> x.debts(0, 2, 0, 1), -12);
        OneIsTwo x = withShorts();
        due("the last one", x.debts(0, 0, 39, 1), 1);
        due("the last two and one more", x.debts(0, 0, 38, 3), -12);
        due("the last two came", x.many(3), 3);
        due("the first of them", x.claimOf(1, 2), 48);
        due("the second of them", x.claimOf(2, 2), 49);
        due("the last three", x.debts(0, 0, 37, 3), 3);
        due("the last one and eleven more", x.debts(0, 0, 39, 12), -12);
        due("one came", x.many(3), 7);
        due("asleep: left out, and outside all the same", x.debts(1, 0, 39, 2), -12);
        due("none came", x.many(3), 7);
    }

    private static void debtsLeftOut() {
        CHECK.sentence(38, "(those that claim() refuses are left out): how many came.");
        OneIsTwo x = withShorts();
        int[] worths = {1, 0, -1, 9999, 10000, 32767, -32768, 2};
        for (int i = 0; i < worths.length; i++) x.put(0, i, worths[i]);
        due("worth 1 to 9999", x.debts(0, 0, 0, 8), 3);
        due("worth 1", x.claimOf(0, 2), 1);
        due("worth 9999", x.claimOf(1, 2), 9999);
        due("worth 2", x.claimOf(2, 2), 2);
        due("debts", x.claimOf(0, 0) + x.claimOf(1, 0) + x.claimOf(2, 0), 0);
        due("his", x.total(0, 0, 0), 10002);
        due("of one asleep", x.debts(1, 0, 10, 5), 0);
        due("to eleven", x.debts(0, 0, 8, 8), 8);
        due("room for one of three", x.debts(0, 0, 8, 3), 1);
        due("room for none", x.debts(0, 0, 8, 3), 0);
        due("CLAIMS", x.many(3), 12);
        x.end(0);
        due("of one who is ended", x.debts(0, 0, 8, 3), 0);
    }

    private static void shelf() {
        CHECK.sentence(39, "BAD: no such SHELF, what, thing.");
        for (int s : new int[] {MIN, -1, 4, MAX}) {
            for (int what = 0; what <= 3; what++) {
                int as = what;
                refused("shelf(" + s + ", " + what + ", 0)", HostEdgesTest::withSheets, x -> x.shelf(s, as, 0), -1);
            }
        }
        for (int what : new int[] {MIN, -1, 4, MAX}) {
            refused("what " + what, HostEdgesTest::withSheets, x -> x.shelf(0, what, 0), -1);
        }
        for (int n : new int[] {MIN, -1, MAX}) {
            for (int what = 0; what <= 2; what++) {
                int as = what;
                refused("what " + what + ", thing " + n, HostEdgesTest::withSheets, x -> x.shelf(0, as, n), -1);
            }
        }
        int[] above = {9, 3, 4};
        for (int what = 0; what <= 2; what++) {
            int as = what;
            refused("what " + what + ", above", HostEdgesTest::withSheets, x -> x.shelf(0, as, above[as]), -1);
            for (int s = 0; s <= 3; s++) {
                due("what " + what + ", the last", withSheets().shelf(s, what, above[what] - 1), 1);
                due("what " + what + ", the first", withSheets().shelf(s, what, 0), 1);
            }
        }
        for (int n : new int[] {MIN, -1, 0, 99, MAX}) due("nothing, " + n, withSheets().shelf(0, 3, n), 1);
        refused("no PERSON at all", OneIsTwo::new, x -> x.shelf(0, 0, 0), -1);
        refused("no CLAIM at all", OneIsTwo::new, x -> x.shelf(0, 1, 0), -1);
        due("a missing SHEET", new OneIsTwo().shelf(0, 2, 0), 1);
    }

    private static void shelvesHold() {
        CHECK.sentence(39, "(2; nothing, if missing), nothing (3)");
        OneIsTwo x = withSheets();
        due("a PERSON", x.taken(0, 0), 0);
        x.shelf(0, 2, 3);
        due("a missing SHEET: nothing", x.taken(0, 0), -11);
        x.shelf(0, 2, 1);
        due("a row of none", x.taken(0, 10), 0);
        x.shelf(0, 2, 2);
        due("a row of 40", x.taken(0, 13), 40);
        x.shelf(0, 3, 0);
        due("nothing", x.taken(0, 13), -11);
        CHECK.sentence(Document.TERMS, "or nothing (at first)");
        for (int s = 0; s <= 3; s++) due("at first", new OneIsTwo().taken(s, 0), -11);
        CHECK.sentence(Document.TERMS, "(by its number; nothing, if there is no such one any more)");
        OneIsTwo y = new OneIsTwo();
        y.born();
        y.claim(0, 0, 5);
        y.keep();
        y.claim(0, 0, 6);
        y.shelf(0, 1, 0);
        y.shelf(1, 1, 1);
        due("there is", y.taken(1, 7), 1);
        y.again();
        due("kept", y.taken(0, 7), 0);
        due("not any more", y.taken(1, 7), -11);
        due("nothing acts", y.act(1, 0, 3), 0);
        y.claim(1, 0, 9);
        due("one with its number", y.act(1, 0, 3), 6);
    }

    private static void taken() {
        CHECK.sentence(40, "BAD: no such SHELF, as; -13; -11.");
        for (int s : new int[] {MIN, -1, 4, MAX}) refused("taken(" + s + ", 0)", Made::rich, x -> x.taken(s, 0), -1);
        for (int as : new int[] {MIN, -1, 8, 9, 15, MAX}) {
            for (int s = 0; s <= 3; s++) {
                int from = s;
                refused("taken(" + s + ", " + as + ")", Made::rich, x -> x.taken(from, as), -1);
            }
        }
        for (int as : new int[] {0, 1, 2, 3, 4, 5, 6, 7, 10, 11, 12, 13, 14}) {
            refused("nothing as " + as, Made::rich, x -> x.taken(3, as), -11);
            due("a first as " + as, Made.rich().taken(0, as), as <= 1 ? 0 : -13);
            due("a CLAIM as " + as, Made.rich().taken(1, as), as == 7 ? 1 : -13);
            due("a row of shorts as " + as, Made.rich().taken(2, as), as == 11 ? 3 : -13);
        }
    }

    private static void takenAs() {
        CHECK.sentence(40, "taken for a thing of KIND as (0 to 7, or one under it): its number");
        CHECK.sentence(Document.TERMS,
                "each of a KIND, which may change: 0 bearer; 1 first, 2 copy, 4 joined, 6 ended (under bearer); "
                + "3 half, 5 asleep (under copy).");
        int[] persons = {Made.FIRST, Made.COPY, Made.HALF, Made.JOINED, Made.ASLEEP, Made.ENDED_COPY};
        String[] fits = {"01", "02", "023", "04", "025", "06"};
        OneIsTwo x = Made.rich();
        for (int i = 0; i < 6; i++) {
            x.shelf(0, 0, persons[i]);
            for (int as = 0; as <= 7; as++) {
                due("KIND " + (i + 1) + " as " + as, x.taken(0, as), fits[i].indexOf('0' + as) >= 0 ? persons[i] : -13);
            }
        }
        x.shelf(0, 0, Made.ASLEEP);
        x.wake(Made.ASLEEP);
        due("his KIND changed", x.taken(0, 5), -13);
        due("his KIND changed", x.taken(0, 2), Made.ASLEEP);
        x.end(Made.ASLEEP);
        due("his KIND changed", x.taken(0, 2), -13);
        due("his KIND changed", x.taken(0, 6), Made.ASLEEP);
        CHECK.sentence(40, "for a row of sort as - 10 (as 10 to 14): how many items");
        OneIsTwo y = new OneIsTwo();
        for (int sort = 0; sort <= 4; sort++) {
            for (int n : new int[] {0, 1, 39, 40}) {
                y.sheet(0, sort, n);
                y.shelf(0, 2, 0);
                for (int as = 10; as <= 14; as++) {
                    due("sort " + sort + " as " + as, y.taken(0, as), as == 10 + sort ? n : -13);
                }
                for (int as = 0; as <= 7; as++) due("sort " + sort + " as " + as, y.taken(0, as), -13);
            }
        }
    }

    private static void act() {
        CHECK.sentence(41, "0, and no TRACE then: no such SHELF, act, nothing, a row.");
        int[][] wrong = {{MIN, 0}, {-1, 0}, {4, 0}, {MAX, 0}, {0, MIN}, {0, -1}, {0, 4}, {0, MAX}, {3, 0}, {3, 3},
            {2, 0}, {2, 3}};
        for (int[] call : wrong) {
            OneIsTwo x = Made.rich();
            due("bodies ahead of it", x.many(9), 4);
            due("act(" + call[0] + ", " + call[1] + ")", x.act(call[0], call[1], 9), 0);
            due("no TRACE", x.many(9), 0);
            due("no TRACE", x.trace(0), -3);
        }
        for (int act = 0; act <= 3; act++) {
            OneIsTwo x = Made.rich();
            x.act(0, act, 9);
            due("act " + act + " of a PERSON", x.many(9) > 0 ? 1 : 0, 1);
            x.act(1, act, 9);
            due("act " + act + " of a CLAIM", x.trace(0), 80 + act);
        }
    }

    /** The PERSON with this number came on this DAY. */
    private static OneIsTwo bearer(int n, int day) {
        OneIsTwo x = new OneIsTwo();
        if (n > 0 && day > 0) x.born();
        while (x.many(0) < n) x.born();
        if (day > 0) x.later(day);
        x.born();
        x.shelf(0, 0, n);
        return x;
    }

    private static void actsWrap() {
        CHECK.sentence(Document.TERMS, "with a number x (ints that wrap)");
        due("x + a", bearer(0, 5).act(0, 0, MAX), MIN + 4);
        due("x + a", bearer(0, 5).act(0, 0, MAX - 5), MAX);
        due("(x + a) * 2 - 4", bearer(0, 5).act(0, 1, 1 << 30), MIN + 6);
        due("(x + a) * 2 - 4", bearer(0, 5).act(0, 1, MIN - 5), -4);
        OneIsTwo y = new OneIsTwo();
        y.born();
        y.born();
        y.later(7);
        y.join(0, 1);
        y.shelf(0, 0, 2);
        due("(x + a) * 2 ^ a", y.act(0, 1, MAX - 7), -7);
        due("(x + a) * 2 ^ a, with bits that both have", y.act(0, 1, 0), 9);
        OneIsTwo x = new OneIsTwo();
        x.born();
        x.claim(0, 0, 1);
        x.claim(0, 0, 1);
        x.claim(0, 0, 1);
        x.shelf(0, 1, 2);
        due("a - x", x.act(0, 0, MIN), MIN + 1);
        due("(a - x) * n", x.act(0, 1, MIN), 2);
        due("x | a", x.act(0, 2, MIN), MIN + 1);
        due("(a - x) * n - (n | a)", x.act(0, 3, MIN + 1), -3);
        x.copied(0, 2, 1, 0, true);
        x.shelf(0, 0, 1);
        due("x * 3", x.act(0, 0, MAX), MAX - 2);
        x.later(1);
        x.copied(0, 5, 1, 1, true);
        x.shelf(0, 0, 2);
        due("(x + 1) by -1, at the end", x.act(0, 2, MAX), MIN);
    }

    private static void partedByNothing() {
        CHECK.sentence(Document.TERMS,
                "x by (a - n), the rest away (-15 if a is n; that is all that act() answers then)");
        for (int day = 1; day <= 3; day++) {
            due("a first, a - n = " + (day - 2), bearer(2, day).act(0, 2, 7), day == 1 ? -7 : day == 2 ? -15 : 7);
            OneIsTwo x = new OneIsTwo();
            x.born();
            x.born();
            x.later(day);
            x.copied(0, 2, 1, 0, true);
            x.shelf(0, 0, 2);
            int told = (7 + day) * 3 * 2 ^ 2;
            due("a copy tells, a - n = " + (day - 2), x.act(0, 3, 7), day == 1 ? told - 2 : day == 2 ? -15 : told + 2);
            due("a copy knows, whatever a is", x.act(0, 1, 7), (7 + day) * 6);
            OneIsTwo y = new OneIsTwo();
            y.born();
            y.born();
            y.later(day);
            y.copied(0, 5, 1, 0, true);
            y.shelf(0, 0, 2);
            told = -(7 + day) * 6 ^ 2;
            due("one asleep shares", y.act(0, 2, 7), day == 1 ? -8 : day == 2 ? -15 : 8);
            due("one asleep tells", y.act(0, 3, 7), day == 1 ? told - 3 : day == 2 ? -15 : told + 3);
        }
        CHECK.sentence(Document.TERMS, "Quotients are cut towards 0.");
        int[] shared = {-7, -6, -5, -4, -1, 0, 1, 4, 5, 6, 7};
        for (int v : shared) {
            due(v + " by 5", bearer(0, 5).act(0, 2, v), v < -4 ? -1 : v > 4 ? 1 : 0);
            due(v + " by -5", bearer(5, 0).act(0, 2, v), v < -4 ? 1 : v > 4 ? -1 : 0);
        }
        due("the lowest by -1", bearer(1, 0).act(0, 2, MIN), MIN);
        due("the lowest by 1", bearer(0, 1).act(0, 2, MIN), MIN);
    }

    private static void trace() {
        CHECK.sentence(42, "THE TRACE's i-th body. NONE.");
        for (int i : new int[] {MIN, -1, 4, 5, 29, 30, MAX}) {
            refused("trace(" + i + ")", Made::rich, x -> x.trace(i), -3);
        }
        refused("no act() yet", OneIsTwo::new, x -> x.trace(0), -3);
        int[] bodies = {13, 20, 11, 10};
        for (int i = 0; i < 4; i++) due("trace(" + i + ")", Made.rich().trace(i), bodies[i]);
        CHECK.sentence(Document.TERMS,
                "numbers of the bodies that ran in the latest act(), as they began (left first)");
        OneIsTwo x = Made.rich();
        x.shelf(0, 0, Made.ASLEEP);
        x.act(0, 3, 1);
        int[] most = {31, 13, 51, 11, 30, 10, 50, 12};
        for (int i = 0; i < 8; i++) due("the most that can run, " + i, x.trace(i), most[i]);
        due("behind them", x.trace(8), -3);
        x.act(0, 0, 1);
        due("of the latest alone", x.many(9), 2);
        due("of the latest alone", x.trace(2), -3);
        OneIsTwo y = bearer(2, 2);
        due("parted by 0", y.act(0, 2, 7), -15);
        due("the body that began", y.many(9) * 100 + y.trace(0), 112);
    }

    private static void many() {
        CHECK.sentence(43, "BAD: another what.");
        for (int what : new int[] {MIN, -1, 11, MAX}) refused("many(" + what + ")", Made::rich, x -> x.many(what), -1);
        int[] rich = {9, 5, 10, 3, 3, 2, 3, 2, 11, 4, 4};
        OneIsTwo x = Made.rich();
        for (int what = 0; what <= 10; what++) due("many(" + what + ")", x.many(what), rich[what]);
        for (int what = 0; what <= 10; what++) due("none: many(" + what + ")", new OneIsTwo().many(what), 0);
        CHECK.sentence(43, "9 bodies of THE TRACE (those kept, 30 at most)");
        x.shelf(0, 0, Made.ASLEEP);
        x.act(0, 3, 1);
        due("the most that can run", x.many(9), 8);
        x.act(0, 3, 1);
        due("not of two acts together", x.many(9), 8);
    }
}
