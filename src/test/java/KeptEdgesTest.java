/** The sentences of promises 44 and 45, and of the Terms under them, that name a boundary case. */
public final class KeptEdgesTest {
    private static final Check CHECK = new Check("KeptEdgesTest");

    private static void due(String call, long got, long want) {
        CHECK.due(call, got, want);
    }

    public static void main(String[] args) {
        nothingKept();
        emptyAndFull();
        whatIsNotKept();
        numbersAgain();
        CHECK.close();
    }

    private static void nothingKept() {
        CHECK.sentence(45, "It becomes what was kept latest (which stays): 1. NONE: nothing is kept.");
        CHECK.refused("nothing kept", OneIsTwo::new, x -> x.again(), -3);
        CHECK.refused("nothing kept, but something is there", Made::withTwoFirsts, x -> x.again(), -3);
        OneIsTwo x = Made.withTwoFirsts();
        due("keep", x.keep(), 1);
        x.born();
        due("again", x.again(), 1);
        due("PERSONS", x.many(0), 2);
        x.born();
        x.born();
        due("it stays", x.again(), 1);
        due("PERSONS", x.many(0), 2);
        x.born();
        x.keep();
        x.born();
        x.again();
        due("the latest", x.many(0), 3);
        CHECK.refused("again right behind keep", () -> {
            OneIsTwo y = Made.rich();
            y.keep();
            return y;
        }, y -> y.again(), 1);
        CHECK.refused("keep once more", () -> {
            OneIsTwo y = Made.rich();
            y.keep();
            return y;
        }, y -> y.keep(), 1);
    }

    private static void emptyAndFull() {
        CHECK.sentence(45, "It becomes what was kept latest");
        OneIsTwo x = new OneIsTwo();
        due("nobody is kept", x.keep(), 1);
        for (int i = 0; i < 12; i++) x.born();
        for (int i = 0; i < 6; i++) x.end(i);
        for (int i = 0; i < 12; i++) x.claim(0, 6, 9);
        for (int i = 0; i < 10; i++) x.deed(6);
        for (int i = 0; i < 8; i++) x.wed(6 + i % 2, 8 + i / 2);
        for (int i = 0; i < 10; i++) x.later(99);
        Check.law(x, "owes all;".repeat(10));
        x.seed(5);
        int[] full = {12, 6, 18, 12, 10, 8, 10};
        for (int what = 0; what < full.length; what++) due("full, " + what, x.many(what), full[what]);
        due("again", x.again(), 1);
        for (int what = 0; what <= 10; what++) due("empty again, " + what, x.many(what), 0);
        due("z is kept, too", x.seed(5), 1);
        due("the first of all", x.born(), 0);
        due("he is like new", x.person(0, 0), 1);
        due("his first CLAIM", x.claim(0, 0, 1), 0);
        due("his SHARE", x.share(0, 0, 0), 1);

        OneIsTwo y = Made.withTwelve();
        while (y.many(3) < 12) y.claim(0, 0, 1);
        while (y.many(4) < 10) y.deed(0);
        for (int p = 7; p < 12; p++) y.end(p);
        y.keep();
        due("what is full stays full", y.again(), 1);
        due("PERSONS", y.born(), -2);
        due("EVENTS", y.end(0), -2);
        due("CLAIMS", y.claim(0, 0, 1), -2);
        due("DEEDS", y.deed(0), -2);
    }

    private static void whatIsNotKept() {
        CHECK.sentence(44, "All but THE TAPE, ROWS, SHEETS, SHELVES, THE TRACE is kept: 1.");
        OneIsTwo x = new OneIsTwo();
        x.keep();
        x.born();
        x.claim(0, 0, 7);
        x.feed(0x20, 1);
        x.prove(0);
        x.sheet(0, 2, 1);
        x.put(0, 0, 5);
        x.shelf(0, 2, 0);
        x.shelf(1, 0, 0);
        x.act(1, 0, 5);
        x.again();
        due("THE TAPE", x.many(8), 1);
        due("ROWS", x.row(0, 2), 1);
        due("SHEETS", x.item(0, 2, 0), 5);
        due("SHELVES", x.taken(0, 12), 1);
        due("THE TRACE", x.trace(0), 10);
        due("PERSONS", x.many(0), 0);
        due("CLAIMS", x.many(3), 0);
    }

    private static void numbersAgain() {
        CHECK.sentence(45, "It becomes what was kept latest (which stays): 1.");
        OneIsTwo x = new OneIsTwo();
        x.born();
        x.copied(0, 5, 1, 0, true);
        Check.law(x, "leave needed; owes all; wed both;");
        x.keep();
        x.copied(0, 3, 3, 0, false);
        x.copied(0, 5, 1, 0, false);
        x.join(0, 2);
        x.wake(1);
        x.later(5);
        x.end(3);
        x.claim(1, 4, 9);
        x.deed(4);
        x.wed(4, 1);
        x.again();
        due("one with a number that was another's", x.born(), 2);
        int[] first = {1, -9, -9, 0, -9, -9, -9, 0, 2};
        for (int what = 0; what <= 8; what++) due("a first, " + what, x.person(2, what), first[what]);
        due("he votes", x.votes(2, 0), 1);
        due("a copy of his", x.copied(2, 2, 1, 0, true), 3);
        int[] copy = {2, 2, -9, 0, 0, 2, -9, 0, 2};
        for (int what = 0; what <= 8; what++) due("a copy, " + what, x.person(3, what), copy[what]);
        due("the one who was joined", x.person(0, 6), -9);
        due("the one who woke", x.person(1, 0), 5);
        due("a CLAIM with a number that was another's", x.claim(0, 2, 5), 0);
        due("its SORT", x.claimOf(0, 0), 0);
        due("a DEED with a number that was another's", x.deed(2), 0);
        due("he did it", x.remembers(2, 0), 1);
        due("a WEDDING with a number that was another's", x.wed(0, 2), 0);
        due("they are", x.wedTo(0), 0b100);
        x.join(0, 2);
        due("who comes", x.person(4, 7), 0);
        due("both SHARES together", x.share(4, 0, 0), 1);
    }
}
