/** Objects to ask: something of everything in them, and room for more or none. */
final class Made {
    /** The PERSONS of rich(), by their KINDS. */
    static final int FIRST = 0, OTHER_FIRST = 1, ASLEEP = 2, HALF = 3, ENDED_COPY = 4, JOINED_AWAY = 5, JOINED = 7,
            COPY = 8, NOBODY = 9;

    private Made() { }

    /** DAY 4, 9 PERSONS, 10 EVENTS, 3 CLAIMS, 3 DEEDS, 2 WEDDINGS, 3 CLAUSES, 2 ROWS, 11 bytes on THE TAPE. */
    static OneIsTwo rich() {
        OneIsTwo x = new OneIsTwo();
        x.born();
        x.born();
        x.later(3);
        x.claim(0, FIRST, 100);
        x.claim(1, OTHER_FIRST, 7);
        x.deed(FIRST);
        x.deed(OTHER_FIRST);
        x.wed(FIRST, OTHER_FIRST);
        x.copied(FIRST, 5, 1, 3, false);
        x.copied(OTHER_FIRST, 3, 3, 3, true);
        x.copied(FIRST, 2, 1, 0, true);
        x.end(ENDED_COPY);
        x.born();
        x.born();
        x.wed(FIRST, JOINED_AWAY);
        x.join(JOINED_AWAY, JOINED_AWAY + 1);
        x.copied(FIRST, 2, 1, 3, true);
        Check.law(x, "owes all; owns shared; wed both;");
        x.seed(42);
        x.keep();
        x.later(1);
        x.deed(HALF);
        x.claim(0, HALF, 9999);
        x.prove(0);
        x.sheet(0, 1, 3);
        x.put(0, 1, 9);
        x.shelf(0, 0, FIRST);
        x.shelf(1, 1, 1);
        x.shelf(2, 2, 0);
        x.act(0, 3, 5);
        Check.feed(x, "vote share;");
        return x;
    }

    static OneIsTwo withTwoFirsts() {
        OneIsTwo x = new OneIsTwo();
        x.born();
        x.born();
        return x;
    }

    /** No room for PERSONS, for 5 EVENTS there is. */
    static OneIsTwo withTwelve() {
        OneIsTwo x = rich();
        for (int i = 0; i < 3; i++) x.born();
        return x;
    }

    /** 0 and 1 firsts, 2 asleep, 3 to 9 ended; 17 EVENTS. */
    static OneIsTwo withOneEventLeft() {
        OneIsTwo x = new OneIsTwo();
        x.born();
        x.born();
        x.claim(0, 0, 100);
        x.copied(0, 5, 1, 0, true);
        Check.law(x, "owes shared;");
        for (int p = 3; p <= 9; p++) {
            x.copied(0, 2, 1, 0, true);
            x.end(p);
        }
        x.keep();
        return x;
    }

    /** The same and a first with number 10; 18 EVENTS. */
    static OneIsTwo withNoEventLeft() {
        OneIsTwo x = withOneEventLeft();
        x.born();
        return x;
    }
}
