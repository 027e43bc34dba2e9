/** Promises 44 and 45. */
public final class KeptTest {
    private static final Check CHECK = new Check("KeptTest");

    private static void due(String call, long got, long want) {
        CHECK.due(call, got, want);
    }

    public static void main(String[] args) {
        allIsKept();
        butForTheHost();
        keptLatest();
        shelvesByNumber();
        CHECK.close();
    }

    private static OneIsTwo full() {
        OneIsTwo x = new OneIsTwo();
        x.born();
        x.born();
        x.later(3);
        x.copied(0, 5, 1, 3, false);
        x.copied(1, 3, 3, 3, true);
        x.claim(0, 0, 100);
        x.deed(0);
        x.wed(0, 1);
        Check.law(x, "owes shared if day > 2; wed both; leave needed if day > 90;");
        x.copied(0, 2, 1, 3, false);
        x.seed(42);
        return x;
    }

    private static long[] look(OneIsTwo x) {
        long[] seen = new long[400];
        int n = 0;
        for (int what : new int[] {0, 1, 2, 3, 4, 5, 6, 10}) seen[n++] = x.many(what);
        for (int p = 0; p < 5; p++) {
            for (int what = 0; what <= 8; what++) seen[n++] = x.person(p, what);
            seen[n++] = x.share(p, 0, 0);
            seen[n++] = x.share(p, 0, 1);
            seen[n++] = x.remembers(p, 0);
            seen[n++] = x.wedTo(p);
            seen[n++] = x.votes(p, 1);
        }
        for (int key = 0; key <= 6; key++) seen[n++] = x.says(key, 0);
        for (int what = 0; what < 4; what++) seen[n++] = x.claimOf(0, what);
        seen[n++] = x.blame(0);
        seen[n] = x.lender(0, 1, 1);
        return seen;
    }

    private static void allIsKept() {
        OneIsTwo x = full();
        long[] was = look(x);
        due("45: nothing kept", x.again(), -3);
        due("44: keep", x.keep(), 1);
        long[] still = look(x);
        for (int i = 0; i < was.length; i++) due("44: changes nothing, " + i, still[i], was[i]);
        x.later(99);
        x.wake(2);
        x.join(0, 1);
        x.end(3);
        x.copied(4, 2, 1, 0, true);
        x.claim(1, 4, 7);
        x.deed(4);
        x.wed(4, 5);
        Check.law(x, "owes all; vote share; sleep bears; leave needed;");
        x.seed(7);
        due("45: again", x.again(), 1);
        long[] now = look(x);
        for (int i = 0; i < was.length; i++) due("45: as it was, " + i, now[i], was[i]);
        due("45: z", x.seed(42), 42);
        x.copied(0, 2, 1, 3, true);
        x.later(1);
        due("45: once more", x.again(), 1);
        now = look(x);
        for (int i = 0; i < was.length; i++) due("45: it stays kept, " + i, now[i], was[i]);
        x.copied(1, 2, 1, 3, true);
        due("45: events go on from there", x.many(2), 6);
        due("45: sides go on from there", x.wedTo(0), 0b100010);
    }

    private static void butForTheHost() {
        OneIsTwo x = full();
        x.keep();
        x.feed(0x20, 1);
        x.prove(0);
        x.sheet(0, 1, 4);
        x.put(0, 2, 9);
        x.shelf(0, 0, 1);
        x.act(0, 3, 1);
        x.again();
        due("44: not the tape", x.many(8), 1);
        due("44: not the rows", x.many(7), 2);
        due("44: not the rows", x.row(0, 2), 2);
        due("44: not the sheets", x.item(0, 1, 2), 9);
        due("44: not the shelves", x.taken(0, 1), 1);
        due("44: not the trace", x.many(9), 4);
    }

    private static void keptLatest() {
        OneIsTwo x = new OneIsTwo();
        x.keep();
        x.born();
        x.again();
        due("45: nobody", x.many(0), 0);
        x.born();
        x.keep();
        x.born();
        x.again();
        due("45: kept latest", x.many(0), 1);
        x.again();
        due("45: stays", x.many(0), 1);
    }

    private static void shelvesByNumber() {
        OneIsTwo x = new OneIsTwo();
        x.born();
        x.keep();
        x.born();
        x.claim(0, 1, 5);
        x.shelf(0, 0, 1);
        x.shelf(1, 1, 0);
        x.act(0, 0, 5);
        x.again();
        due("45: no such person any more", x.taken(0, 1), -11);
        due("45: no such claim any more", x.taken(1, 7), -11);
        due("41: nothing there", x.act(0, 0, 5), 0);
        due("41: no trace", x.many(9), 0);
        due("41: nothing there", x.act(1, 0, 5), 0);
        x.later(7);
        x.born();
        x.claim(1, 0, 9);
        due("40: by his number", x.taken(0, 1), 1);
        due("41: by its number", x.act(1, 0, 1), 8);
        due("41: by his number", x.act(0, 0, 5), 12);
    }
}
