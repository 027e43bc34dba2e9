/** The sentences of promises 44 and 45, and of the Terms and the face, that name a boundary case: each has its own calls. */
public final class KeptEdgesTest {
    private static final Check CHECK = new Check("KeptEdgesTest");

    private static void due(String call, long got, long want) {
        CHECK.due(call, got, want);
    }

    public static void main(String[] args) {
        everyPromiseHasASentence();
        nothingKept();
        emptyAndFull();
        whatIsNotKept();
        constants();
        untilTheLastCall();
        CHECK.close();
    }

    private static void everyPromiseHasASentence() {
        for (int promise = 1; promise <= Document.PROMISES; promise++) {
            due("tests of promise " + promise, Document.isNamedByATest(promise) ? 1 : 0, 1);
        }
    }

    private static void nothingKept() {
        CHECK.sentence(45, "It becomes what was kept latest (which stays): 1. NONE: nothing is kept.");
        CHECK.refused("nothing kept", OneIsTwo::new, x -> x.again(), -3);
        CHECK.refused("nothing kept, but something is there", Made::withTwoFirsts, x -> x.again(), -3);
        OneIsTwo x = Made.withTwoFirsts();
        due("keep", x.keep(), 1);
        x.born();
        due("again", x.again(), 1);
        due("PERSONS", x.many(0), 2);
        x.born();
        x.born();
        due("it stays", x.again(), 1);
        due("PERSONS", x.many(0), 2);
        x.born();
        x.keep();
        x.born();
        x.again();
        due("the latest", x.many(0), 3);
        CHECK.refused("again right behind keep", () -> {
            OneIsTwo y = Made.rich();
            y.keep();
            return y;
        }, y -> y.again(), 1);
        CHECK.refused("keep once more", () -> {
            OneIsTwo y = Made.rich();
            y.keep();
            return y;
        }, y -> y.keep(), 1);
    }

    private static void emptyAndFull() {
        CHECK.sentence(45, "It becomes what was kept latest");
        OneIsTwo x = new OneIsTwo();
        due("nobody is kept", x.keep(), 1);
        for (int i = 0; i < 12; i++) x.born();
        for (int i = 0; i < 6; i++) x.end(i);
        for (int i = 0; i < 12; i++) x.claim(0, 6, 9);
        for (int i = 0; i < 10; i++) x.deed(6);
        for (int i = 0; i < 8; i++) x.wed(6 + i % 2, 8 + i / 2);
        for (int i = 0; i < 10; i++) x.later(99);
        Check.law(x, "owes all;".repeat(10));
        x.seed(5);
        int[] full = {12, 6, 18, 12, 10, 8, 10};
        for (int what = 0; what < full.length; what++) due("full, " + what, x.many(what), full[what]);
        due("again", x.again(), 1);
        for (int what = 0; what <= 10; what++) due("empty again, " + what, x.many(what), 0);
        due("z is kept, too", x.seed(5), 1);
        due("the first of all", x.born(), 0);
        due("he is like new", x.person(0, 0), 1);
        due("his first CLAIM", x.claim(0, 0, 1), 0);
        due("his SHARE", x.share(0, 0, 0), 1);

        OneIsTwo y = Made.withTwelve();
        while (y.many(3) < 12) y.claim(0, 0, 1);
        while (y.many(4) < 10) y.deed(0);
        for (int p = 7; p < 12; p++) y.end(p);
        y.keep();
        due("what is full stays full", y.again(), 1);
        due("PERSONS", y.born(), -2);
        due("EVENTS", y.end(0), -2);
        due("CLAIMS", y.claim(0, 0, 1), -2);
        due("DEEDS", y.deed(0), -2);
    }

    private static void whatIsNotKept() {
        CHECK.sentence(44, "All but THE TAPE, ROWS, SHEETS, SHELVES, THE TRACE is kept: 1.");
        OneIsTwo x = new OneIsTwo();
        x.keep();
        x.born();
        x.claim(0, 0, 7);
        x.feed(0x20, 1);
        x.prove(0);
        x.sheet(0, 2, 1);
        x.put(0, 0, 5);
        x.shelf(0, 2, 0);
        x.shelf(1, 0, 0);
        x.act(1, 0, 5);
        x.again();
        due("THE TAPE", x.many(8), 1);
        due("ROWS", x.row(0, 2), 1);
        due("SHEETS", x.item(0, 2, 0), 5);
        due("SHELVES", x.taken(0, 12), 1);
        due("THE TRACE", x.trace(0), 10);
        due("PERSONS", x.many(0), 0);
        due("CLAIMS", x.many(3), 0);
    }

    private static void constants() {
        CHECK.sentence(Document.TERMS, "public static final int BAD = -1, FULL = -2, NONE = -3, STATE = -4;");
        due("BAD", OneIsTwo.BAD, -1);
        due("FULL", OneIsTwo.FULL, -2);
        due("NONE", OneIsTwo.NONE, -3);
        due("STATE", OneIsTwo.STATE, -4);
    }

    private static void untilTheLastCall() {
        CHECK.sentence(Document.TERMS, "An object is used for at most 512 calls after it has been made");
        OneIsTwo x = Made.withTwoFirsts();
        for (int call = 3; call < 512; call++) due("call " + call, call % 2 == 0 ? x.keep() : x.again(), call == 3 ? -3 : 1);
        due("the last call", x.many(0), 2);
    }
}
